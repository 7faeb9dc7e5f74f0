/** Section 2 of the document, sentence by sentence: deeds done, a life, a jury's word, the order of lives, what is undone. */
public final class LifeEdgesTest {
    private static void due(String call, long got, long want) {
        Check.due(call, got, want);
    }

    private static void selves(LaterJury x, int life, int... want) {
        for (int year = 0; year < want.length; year++) {
            due("self(" + life + ", " + year + ")", x.self(life, year), want[year]);
        }
        due("self(" + life + ", " + want.length + ")", x.self(life, want.length), -1);
    }

    private static void verdicts(LaterJury x, int life, int... want) {
        for (int t = 0; t < want.length; t++) {
            due("verdict(" + life + ", " + t + ")", x.verdict(life, t), want[t]);
        }
        due("verdict(" + life + ", " + want.length + ")", x.verdict(life, want.length), -1);
    }

    // ---- DONE (6 at most)

    private static void sixDone() {
        LaterJury x = Check.told("y4;s9 0 0 0 0;d0 0;d0 0;");
        for (int i = 1; i <= 6; i++) {
            due("does()", x.does(i % 4, i % 2), i);
        }
        due("does() a seventh", x.does(0, 0), -3);
        due("count(4)", x.count(4), 6);
        due("done(5, 0)", x.done(5, 0), 2);
        due("done(6, 0)", x.done(6, 0), -1);
        due("takes(5)", x.takes(5), 5);
        due("does() where there is room again", x.does(3, 0), 6);
        due("does() a seventh again", x.does(0, 0), -3);
        due("undo()", x.undo(), 7);
        due("does() behind undo()", x.does(3, 0), 6);
    }

    /** takes() of the first, one in the middle, the last: those behind come one on. */
    private static void takesFromAnyPlace() {
        int[][] left = {{1, 2, 3}, {0, 2, 3}, {0, 1, 3}, {0, 1, 2}};
        for (int i = 0; i < 4; i++) {
            LaterJury x = Check.told("y4;s9 0 0 0 0;d0 0;");
            for (int year = 0; year < 4; year++) {
                x.does(year, 0);
            }
            due("takes(" + i + ")", x.takes(i), 3);
            for (int k = 0; k < 3; k++) {
                due("takes(" + i + "), done(" + k + ", 0)", x.done(k, 0), left[i][k]);
            }
            due("takes(" + i + "), done(3, 0)", x.done(3, 0), -1);
            due("takes(3)", x.takes(3), -1);
        }
    }

    // ---- in YEAR 0 one is BEGIN; then DEEDS DONE in that YEAR change it, in the order of DONE

    private static void deedInTheFirstYear() {
        LaterJury x = Check.told("y3;s9 0 0 0 0;s9 0 1 1 1;b0;d0 1;");
        selves(x, 0, 0, 0, 0);
        x.does(0, 0);
        selves(x, 0, 1, 1, 1);
        due("BEGIN is as told", x.count(5), 0);
    }

    private static void deedInTheLastYear() {
        LaterJury x = Check.told("y3;s9 0 0 0 0;s9 0 1 1 1;d0 1;");
        x.does(2, 0);
        selves(x, 0, 0, 0, 1);
    }

    /** As many states and years as there may be: a deed is of its own year, the last state's too. */
    private static void deedsOfSixStates() {
        String text = "y16;s9 0 0 0 0;s9 0 0 0 0;s9 0 0 0 0;s9 0 0 0 0;s9 0 0 0 0;s9 0 0 0 0;d0 5;d5 4;";
        for (int year = 0; year < 16; year++) {
            LaterJury x = Check.told(text);
            x.does(year, 0);
            for (int other = 0; other < 16; other++) {
                due("(" + year + ", 0): self(0, " + other + ")", x.self(0, other), other == year ? 5 : 0);
            }
            x.does(year, 1);
            due("(" + year + ", 1): self(0, " + year + ")", x.self(0, year), 4);
        }
    }

    private static void deedOfAnotherState() {
        LaterJury x = Check.told("y3;s9 0 0 0 0;s9 0 1 1 1;d1 0;");
        x.does(1, 0);
        selves(x, 0, 0, 0, 0);
    }

    /** 0 to 1, 1 to 2, 2 to 0 in one year, by the order of DONE and not of the kinds. */
    private static void deedsInTheirOrder() {
        String text = "y2;s9 0 0 0 0;s9 0 1 1 1;s9 0 2 2 2;d0 1;d1 2;d2 0;";
        int[][] orders = {{0, 1, 2}, {0, 2, 1}, {1, 0, 2}, {1, 2, 0}, {2, 0, 1}, {2, 1, 0}};
        int[] behind = {0, 2, 1, 1, 2, 1};
        for (int i = 0; i < orders.length; i++) {
            LaterJury x = Check.told(text);
            for (int kind : orders[i]) {
                x.does(1, kind);
            }
            selves(x, 0, 0, behind[i]);
        }
    }

    /** Of different years the order of DONE is no matter. */
    private static void laterYearDoneFirst() {
        LaterJury x = Check.told("y4;s9 0 0 0 0;s9 0 1 1 1;s9 0 2 2 2;d0 1;d1 2;");
        x.does(3, 1);
        x.does(1, 0);
        selves(x, 0, 0, 1, 1, 2);
    }

    // ---- by the VERDICT of the YEAR ahead (HUNG, no TRIAL: without one)

    private static void verdictActsAYearOn() {
        LaterJury x = Check.told("y6;s9 0 0 1 2;s8 0 1 1 1;s10 0 2 2 2;t3 4 5;");
        due("lives()", x.lives(), 2);
        verdicts(x, 0, 1);
        selves(x, 0, 0, 0, 0, 0, 1, 1);
        verdicts(x, 1, 2);
        selves(x, 1, 0, 0, 0, 0, 2, 2);
    }

    /** Guilty would make 2 of 1: only in the year behind the trial one becomes something by it. */
    private static void verdictActsOnce() {
        LaterJury x = Check.told("y5;s8 0 0 1 1;s8 0 1 2 2;s18 0 2 2 2;t1 2 4;");
        due("lives()", x.lives(), 1);
        verdicts(x, 0, 1);
        selves(x, 0, 0, 0, 1, 1, 1);
    }

    private static void hungIsWithoutVerdict() {
        LaterJury x = Check.told("y3;s9 0 1 2 2;s9 0 1 1 1;s9 0 2 2 2;t0 1 1;q2;");
        due("lives()", x.lives(), 1);
        verdicts(x, 0, 0);
        selves(x, 0, 0, 1, 1);
    }

    /** The last year that may have a trial: its jury is the last year alone. */
    private static void trialAheadOfTheLastYear() {
        LaterJury x = Check.told("y16;s9 0 0 1 2;s8 0 1 1 1;s10 0 2 2 2;t14 15 15;");
        due("lives()", x.lives(), 2);
        due("self(0, 14)", x.self(0, 14), 0);
        due("self(0, 15)", x.self(0, 15), 1);
        due("self(1, 15)", x.self(1, 15), 2);
    }

    /** A deed in the year of a trial comes ahead of its verdict, one in the year behind it comes later. */
    private static void deedAndVerdict() {
        String text = "y3;s9 0 0 0 0;s9 0 1 2 2;s9 0 2 2 2;t0 1 2;d0 1;d2 0;";
        LaterJury x = Check.told(text);
        x.does(0, 0);
        verdicts(x, 0, 2);
        selves(x, 0, 1, 2, 2);
        x.does(1, 1);
        selves(x, 0, 1, 0, 0);
    }

    private static void trialsWithYearsBetween() {
        LaterJury x = Check.told("y6;s9 0 0 1 2;s8 0 1 1 3;s10 0 2 1 2;s10 0 3 3 3;t1 2 2;t4 5 5;");
        int[][] given = {{1, 1}, {1, 2}, {2, 1}, {2, 2}};
        int[][] lived = {{0, 0, 1, 1, 1, 1}, {0, 0, 1, 1, 1, 3}, {0, 0, 2, 2, 2, 1}, {0, 0, 2, 2, 2, 2}};
        due("lives()", x.lives(), 4);
        for (int i = 0; i < 4; i++) {
            verdicts(x, i, given[i]);
            selves(x, i, lived[i]);
        }
    }

    // ---- (Without STATES: there is no LIFE.)

    private static void withoutStates() {
        for (String text : new String[] {"", "y2;", "t0 1 1;", "t0 1 1;t1 2 2;t2 3 3;q9;d0 0;b5;"}) {
            LaterJury x = Check.told(text);
            due("lives() of " + text, x.lives(), 0);
            due("quorum(9) of " + text, x.quorum(9), 0);
            due("who(0) of " + text, x.who(0), 0);
            due("fits() of " + text, x.fits(), 0);
            due("self(0, 0) of " + text, x.self(0, 0), -1);
            due("verdict(0, 0) of " + text, x.verdict(0, 0), -1);
            due("strikes(0, 0, 1) of " + text, x.strikes(0, 0, 1), -1000000);
            due("ring(0) of " + text, x.ring(0), 0);
            due("ring(1) of " + text, x.ring(1), 0);
        }
    }

    /** States that an earlier text told, dead ones that would hang each trial, are none of this life. */
    private static void withoutStatesAnyMore() {
        LaterJury x = new LaterJury();
        for (int i = 0; i < 2; i++) {
            // twice, so that both rooms that a text may be read into have held them
            for (int time = 0; time < 2; time++) {
                Check.type(x, "y3;s9 1 0 0 0;s9 1 1 1 1;t0 1 1;");
                due("court() with states", x.court(), 4);
                due("lives() with states", x.lives(), 1);
                due("sure(0) with states", x.sure(0), 0);
            }
            Check.type(x, "y3;t0 1 1;");
            due("court() without states", x.court(), 2);
            due("lives()", x.lives(), 0);
            due("sure(0)", x.sure(0), -9);
            due("who(2)", x.who(2), 0);
            due("fits()", x.fits(), 0);
            due("ring(1)", x.ring(1), 0);
            due("innocent(0)", x.innocent(0), 0);
            due("help(0, 0)", x.help(0, 0), -9);
            due("verdict(0, 0)", x.verdict(0, 0), -1);
        }
    }

    private static void deedsWithoutStates() {
        LaterJury x = Check.told("y3;t0 1 1;d0 1;");
        due("does(0, 0)", x.does(0, 0), 1);
        due("lives()", x.lives(), 0);
        due("help(0, 0)", x.help(0, 0), -9);
        due("undo()", x.undo(), 0);
    }

    // ---- the selves of YEARS A to B; those that are not DEAD; fewer than QUORUM: HUNG

    /** Leans of years 0 .. 3: 9, -5, 3, 0. */
    private static void juryFromAToB() {
        String text = "y4;s18 0 1 1 1;s4 0 2 2 2;s12 0 3 3 3;s9 0 3 3 3;t0 ";
        due("1 1", Check.told(text + "1 1;").sure(0), 1);
        due("1 2", Check.told(text + "1 2;").sure(0), 1);
        due("1 3", Check.told(text + "1 3;").sure(0), 1);
        due("2 2", Check.told(text + "2 2;").sure(0), 2);
        due("2 3", Check.told(text + "2 3;").sure(0), 2);
        due("3 3", Check.told(text + "3 3;").sure(0), 2);
    }

    /** Alive in the first, or the last, year of the jury alone. */
    private static void theEdgesOfAJuryCount() {
        String firstAlive = "y4;s0 1 1 1 1;s9 0 2 2 2;s0 1 2 2 2;t0 1 3;";
        due("the first alone", Check.told(firstAlive).sure(0), 2);
        due("the first alone is not two", Check.told(firstAlive + "q2;").sure(0), 0);
        String lastAlive = "y4;s18 1 1 1 1;s18 1 2 2 2;s18 1 3 3 3;s8 0 3 3 3;t0 1 3;";
        due("the last alone", Check.told(lastAlive).sure(0), 1);
        due("the last alone is not two", Check.told(lastAlive + "q2;").sure(0), 0);
    }

    private static void quorumIsEnough() {
        String text = "y16;s9 0 0 0 0;t0 1 9;q";
        due("nine of nine", Check.told(text + "9;").sure(0), 2);
        due("eight of nine", Check.told("y16;s9 0 0 0 0;t0 1 8;q9;").sure(0), 0);
        due("one of one", Check.told("y2;s9 0 0 0 0;t0 1 1;q1;").sure(0), 2);
        due("none of one", Check.told("y2;s9 1 0 0 0;t0 1 1;q1;").sure(0), 0);
        due("the dead don't make a quorum", Check.told("y3;s9 0 1 1 1;s9 1 0 0 0;t0 1 2;q2;").sure(0), 0);
    }

    // ---- LEANS together: 0 or more ACQUITTED, below that GUILTY

    private static void leansTogether() {
        String one = " 0 0 0 0;t0 1 1;";
        due("0", Check.told("s9" + one).sure(0), 2);
        due("-1", Check.told("s8" + one).sure(0), 1);
        due("1", Check.told("s10" + one).sure(0), 2);
        due("-9", Check.told("s0" + one).sure(0), 1);
        due("9", Check.told("s18" + one).sure(0), 2);
        String two = "y3;s9 0 1 1 1;s4 0 2 2 2;s";
        due("-5 and 5", Check.told(two + "14 0 2 2 2;t0 1 2;").sure(0), 2);
        due("-5 and 4", Check.told(two + "13 0 2 2 2;t0 1 2;").sure(0), 1);
        due("-5 and 6, dead", Check.told(two + "15 1 2 2 2;t0 1 2;").sure(0), 1);
    }

    // ---- LIVES in the order of their VERDICTS (TRIAL by TRIAL, the lesser first)

    /** Behind hung one dies; three verdicts that each prove themselves. */
    private static void lesserFirst() {
        LaterJury x = Check.told("y2;s9 1 0 1 2;s8 0 1 1 1;s9 0 2 2 2;t0 1 1;");
        due("lives()", x.lives(), 3);
        for (int i = 0; i < 3; i++) {
            verdicts(x, i, i);
            selves(x, i, 0, i);
        }
        due("verdict(3, 0)", x.verdict(3, 0), -1);
        due("who(1)", x.who(1), 7);
        due("sure(0)", x.sure(0), -5);
    }

    /** Whoever one is, hung makes 0 (dead), guilty 1, an acquittal 2: each of 27 rows is a life. */
    private static void twentySevenLives() {
        LaterJury x = Check.told("y4;s9 1 0 1 2;s8 0 0 1 2;s9 0 0 1 2;t0 1 1;t1 2 2;t2 3 3;");
        due("lives()", x.lives(), 27);
        for (int i = 0; i < 27; i++) {
            verdicts(x, i, i / 9, i / 3 % 3, i % 3);
            due("self(" + i + ", 1)", x.self(i, 1), i / 9);
            due("self(" + i + ", 3)", x.self(i, 3), i % 3);
        }
        due("verdict(27, 0)", x.verdict(27, 0), -1);
        due("self(27, 0)", x.self(27, 0), -1);
        due("strikes(27, 0, 1)", x.strikes(27, 0, 1), -1000000);
        due("strikes(26, 2, 1)", x.strikes(26, 2, 1), 0);
        due("strikes(0, 0, 1)", x.strikes(0, 0, 1), -1000000);
    }

    private static void nineLives() {
        LaterJury x = Check.told("y3;s9 1 0 1 2;s8 0 0 1 2;s9 0 0 1 2;t0 1 1;t1 2 2;");
        due("lives()", x.lives(), 9);
        for (int i = 0; i < 9; i++) {
            verdicts(x, i, i / 3, i % 3);
        }
        due("verdict(9, 0)", x.verdict(9, 0), -1);
    }

    private static void noTrialIsOneLife() {
        LaterJury x = Check.told("y2;s9 1 0 0 0;");
        due("lives()", x.lives(), 1);
        selves(x, 0, 0, 0);
        due("self(1, 0)", x.self(1, 0), -1);
        due("verdict(0, 0)", x.verdict(0, 0), -1);
        due("quorum(9)", x.quorum(9), 1);
    }

    // ---- UNDONE: the latest DEED DONE or taken back (10 are known, older ones are lost): all is as ahead of it

    private static void undoOfNone() {
        LaterJury x = Check.told("y3;s9 0 0 0 0;d0 0;");
        due("undo() of none", x.undo(), -2);
        x.does(9, 9);
        x.takes(0);
        due("what is refused is not known", x.undo(), -2);
        x.does(0, 0);
        due("undo() of one", x.undo(), 0);
        due("undo() itself is not known", x.undo(), -2);
    }

    private static void known(int deeds, int wantKnown, int wantLeft) {
        LaterJury x = Check.told("y16;s9 0 0 0 0;d0 0;");
        for (int i = 0; i < deeds; i++) {
            if (i % 2 == 0) {
                x.does(i, 0);
            } else {
                x.takes(0);
            }
        }
        due(deeds + " deeds: count(8)", x.count(8), wantKnown);
        for (int i = wantKnown - 1; i >= 0; i--) {
            due(deeds + " deeds: undo()", x.undo(), i);
        }
        due(deeds + " deeds: one more", x.undo(), -2);
        due(deeds + " deeds: what is left", x.count(4), wantLeft);
    }

    private static void tenKnown() {
        known(9, 9, 0);
        known(10, 10, 0);
        known(11, 10, 1);
        known(12, 10, 0);
    }

    /** Six deeds: does() is refused, and none that may be undone is lost by it. */
    private static void fullIsNotKnown() {
        LaterJury x = Check.told("y3;s9 0 0 0 0;d0 0;");
        for (int i = 0; i < 6; i++) {
            x.does(0, 0);
        }
        x.does(0, 0);
        due("count(8)", x.count(8), 6);
        due("undo()", x.undo(), 5);
        due("count(4)", x.count(4), 5);
    }

    /** A deed taken back comes to its own place again. */
    private static void takenBackUndone() {
        LaterJury x = Check.told("y4;s9 0 0 0 0;d0 0;d0 0;");
        x.does(1, 1);
        x.does(2, 0);
        x.does(3, 1);
        x.takes(1);
        due("undo()", x.undo(), 3);
        int[] years = {1, 2, 3};
        int[] kinds = {1, 0, 1};
        for (int i = 0; i < 3; i++) {
            due("done(" + i + ", 0)", x.done(i, 0), years[i]);
            due("done(" + i + ", 1)", x.done(i, 1), kinds[i]);
        }
    }

    public static void main(String[] args) {
        sixDone();
        takesFromAnyPlace();
        deedInTheFirstYear();
        deedInTheLastYear();
        deedsOfSixStates();
        deedOfAnotherState();
        deedsInTheirOrder();
        laterYearDoneFirst();
        verdictActsAYearOn();
        verdictActsOnce();
        hungIsWithoutVerdict();
        trialAheadOfTheLastYear();
        deedAndVerdict();
        trialsWithYearsBetween();
        withoutStates();
        withoutStatesAnyMore();
        deedsWithoutStates();
        juryFromAToB();
        theEdgesOfAJuryCount();
        quorumIsEnough();
        leansTogether();
        lesserFirst();
        twentySevenLives();
        nineLives();
        noTrialIsOneLife();
        undoOfNone();
        tenKnown();
        fullIsNotKnown();
        takenBackUndone();
        Check.end();
    }
}
