/** Promises 12 to 17: lives, verdicts, selves, what is sure, who, the ring. */
public final class LivesTest {
    private static void due(String call, long got, long want) {
        Check.due(call, got, want);
    }

    /** A verdict that proves itself: guilty makes one bitter, acquittal merciful. */
    private static final String TWO_LIVES = "y3;s9 0 0 1 2;s0 0 1 1 1;s18 0 2 2 2;t0 1 2;";
    /** A verdict that refutes itself. */
    private static final String PARADOX = "y3;s9 0 0 1 2;s18 0 1 1 1;s0 0 2 2 2;t0 1 2;";
    /** Dead behind guilty: the jury is missing, and hung. */
    private static final String GHOST = "y4;s8 0 0 1 0;s18 1 1 1 1;t0 1 3;";

    private static void twoLives() {
        LaterJury x = Check.told(TWO_LIVES);
        due("lives()", x.lives(), 2);
        due("verdict(0, 0)", x.verdict(0, 0), 1);
        due("verdict(1, 0)", x.verdict(1, 0), 2);
        due("verdict(2, 0)", x.verdict(2, 0), -1);
        due("verdict(-1, 0)", x.verdict(-1, 0), -1);
        due("verdict(0, 1)", x.verdict(0, 1), -1);
        due("verdict(0, -1)", x.verdict(0, -1), -1);
        due("self(0, 0)", x.self(0, 0), 0);
        due("self(0, 1)", x.self(0, 1), 1);
        due("self(1, 2)", x.self(1, 2), 2);
        due("self(2, 0)", x.self(2, 0), -1);
        due("self(-1, 0)", x.self(-1, 0), -1);
        due("self(0, 3)", x.self(0, 3), -1);
        due("self(0, -1)", x.self(0, -1), -1);
        due("sure(0)", x.sure(0), -5);
        due("sure(1)", x.sure(1), -1);
        due("sure(-1)", x.sure(-1), -1);
        due("who(0)", x.who(0), 1);
        due("who(1)", x.who(1), 6);
        due("who(2)", x.who(2), 6);
        due("who(3)", x.who(3), -1);
        due("who(-1)", x.who(-1), -1);
        // hung: LEAN 0 twice, so acquitted, which stays
        due("ring(0)", x.ring(0), 1);
        due("ring(1)", x.ring(1), 1);
        due("ring(2)", x.ring(2), -1);
        due("ring(-1)", x.ring(-1), -1);
    }

    private static void paradox() {
        LaterJury x = Check.told(PARADOX);
        due("lives()", x.lives(), 0);
        due("sure(0)", x.sure(0), -9);
        due("who(0)", x.who(0), 0);
        due("verdict(0, 0)", x.verdict(0, 0), -1);
        due("self(0, 0)", x.self(0, 0), -1);
        due("ring(0)", x.ring(0), 1);
        due("ring(1)", x.ring(1), 2);
    }

    private static void deadAreMissing() {
        LaterJury x = Check.told(GHOST);
        // hung: LEAN -3, guilty; guilty: all dead, hung; acquitted: guilty
        due("lives()", x.lives(), 0);
        due("ring(0)", x.ring(0), 0);
        due("ring(1)", x.ring(1), 2);
        LaterJury y = Check.told("y4;s8 1 0 0 0;t0 1 3;");
        due("all dead: lives()", y.lives(), 1);
        due("all dead: sure(0)", y.sure(0), 0);
        due("all dead: ring(0)", y.ring(0), 0);
        due("all dead: ring(1)", y.ring(1), 1);
    }

    private static void quorumAndLean() {
        due("LEAN 0 acquits", Check.told("y4;s9 0 0 0 0;t0 1 3;q3;").sure(0), 2);
        due("LEAN below 0", Check.told("y4;s8 0 0 0 0;t0 1 3;q3;").sure(0), 1);
        due("fewer than the quorum", Check.told("y4;s9 0 0 0 0;t0 1 3;q4;").sure(0), 0);
        // year 1 dead (state 1), years 2 and 3 alive again: LEANS -1 and -1
        due("the dead don't lean", Check.told("y4;s8 0 1 1 1;s18 1 0 0 0;t0 1 3;").sure(0), 1);
        due("the dead don't count", Check.told("y4;s8 0 1 1 1;s18 1 0 0 0;t0 1 3;q2;").sure(0), 0);
    }

    private static void withoutTrialsOrStates() {
        LaterJury x = Check.told("y5;s9 0 1 0 0;s9 0 4 0 0;");
        due("no trials: lives()", x.lives(), 1);
        due("no trials: self(0, 4)", x.self(0, 4), 1);
        due("no trials: who(0)", x.who(0), 1);
        due("no trials: ring(0)", x.ring(0), 0);
        due("no trials: ring(1)", x.ring(1), 1);
        due("no trials: verdict(0, 0)", x.verdict(0, 0), -1);
        LaterJury y = Check.told("y5;b3;t0 1 2;d0 1;");
        due("no states: lives()", y.lives(), 0);
        due("no states: sure(0)", y.sure(0), -9);
        due("no states: who(4)", y.who(4), 0);
        due("no states: who(5)", y.who(5), -1);
        due("no states: ring(0)", y.ring(0), 0);
        due("no states: ring(1)", y.ring(1), 0);
        due("no states: ring(2)", y.ring(2), -1);
        due("no states: self(0, 0)", y.self(0, 0), -1);
    }

    /** Lives come by the first trial's verdict first, then the second's. */
    private static void orderOfLives() {
        LaterJury x = Check.told("y5;s9 0 0 1 2;s0 0 1 1 3;s18 0 2 4 2;s18 0 3 3 3;s0 0 4 4 4;t0 1 1;t1 2 2;");
        // jury of trial 0 is the self of year 1: bitter 1 or merciful 2; of trial 1 that of year 2
        int[][] verdicts = {{1, 1}, {1, 2}, {2, 1}, {2, 2}};
        due("lives()", x.lives(), 4);
        for (int i = 0; i < verdicts.length; i++) {
            due("verdict(" + i + ", 0)", x.verdict(i, 0), verdicts[i][0]);
            due("verdict(" + i + ", 1)", x.verdict(i, 1), verdicts[i][1]);
        }
        due("self(1, 2)", x.self(1, 2), 3);
        due("self(2, 2)", x.self(2, 2), 4);
        due("who(2)", x.who(2), 2 + 4 + 8 + 16);
    }

    /** Nothing is changed by asking. */
    private static void askingChangesNothing() {
        LaterJury x = Check.told(TWO_LIVES);
        x.innocent(0);
        x.fits();
        x.quorum(9);
        x.help(0, 0);
        due("lives()", x.lives(), 2);
        due("self(0, 0)", x.self(0, 0), 0);
        due("count(5)", x.count(5), 0);
        due("count(6)", x.count(6), 1);
        due("count(8)", x.count(8), 0);
    }

    public static void main(String[] args) {
        twoLives();
        paradox();
        deadAreMissing();
        quorumAndLean();
        withoutTrialsOrStates();
        orderOfLives();
        askingChangesNothing();
        Check.end();
    }
}
