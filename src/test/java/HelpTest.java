/** Promises 18 to 21: help, strikes, innocence, odds. */
public final class HelpTest {
    private static void due(String call, long got, long want) {
        Check.due(call, got, want);
    }

    private static void help(String text, int many, int first, int second) {
        help(Check.told(text), text, many, first, second);
    }

    private static void help(LaterJury x, String text, int many, int first, int second) {
        due("help(0, 0) of " + text, x.help(0, 0), many);
        due("help(0, 1) of " + text, x.help(0, 1), first);
        due("help(0, 2) of " + text, x.help(0, 2), second);
    }

    private static void howMuchHelp() {
        help("y3;s9 0 0 0 0;t0 1 2;", 0, -5, -5);
        // 0 leans to guilty, 1 to mercy
        help("y3;s8 0 0 0 0;s9 0 1 1 1;t0 1 2;d1 0;d0 1;", 1, 1, -5);
        // by way of 2: both deeds in year 0, in this order of kinds
        help("y3;s8 0 0 0 0;s9 0 1 1 1;s8 0 2 2 2;t0 1 2;d2 1;d0 2;", 2, 1, 0);
        help("y3;s8 0 0 0 0;s9 0 1 1 1;t0 1 2;d1 0;", -9, -9, -9);
        help("y3;s8 0 0 0 0;t0 1 2;", -9, -9, -9);
        // three would be needed
        help("y3;s8 0 0 0 0;s9 0 1 1 1;s8 0 2 2 2;s8 0 3 3 3;t0 1 2;d0 2;d2 3;d3 1;", -9, -9, -9);
        // without states there is no life
        help("y3;t0 1 2;d0 1;", -9, -9, -9);
    }

    /** One returns to 0 each year, so that a deed holds for its own year alone. */
    private static void laterYears() {
        help("y5;s8 0 0 0 0;s18 0 0 0 0;t0 3 4;d0 1;", 1, 30, -5);
        help("y12;s7 0 0 0 0;s10 0 0 0 0;t0 10 11;d1 0;d0 1;", 2, 101, 111);
    }

    private static void behindThoseDone() {
        String text = "y3;s8 0 0 0 0;s9 0 1 1 1;t0 1 2;d0 1;d1 0;";
        LaterJury x = Check.told(text);
        x.does(2, 1);
        // one deed makes mercy from year 0 on, another one mends year 2 behind what is done there
        help(x, text + " with (2, 1)", 2, 0, 20);
        due("nothing is done by help", x.count(4), 1);
        for (int i = 0; i < 5; i++) {
            x.does(0, 1);
        }
        due("does()", x.does(0, 0), -3);
        // in year 0 the deeds done come first: 0 stays 0, then 1; and year 2 turns it back
        help(x, text + " with six", 2, 0, 20);
        x.undo();
        x.does(2, 0);
        help(x, text + " with year 2 mended", 1, 0, -5);
        x.takes(5);
        help(x, text + " with year 2 not mended", 2, 0, 20);
    }

    /** Of what is tried in vain nothing stays, and what is done in the same year does. */
    private static void triedInVain() {
        String text = "y3;s8 0 0 0 0;s8 0 1 1 1;s8 0 2 2 2;s9 0 3 3 3;t0 1 2;d1 0;d1 2;d2 3;d0 1;";
        LaterJury x = Check.told(text);
        x.does(0, 3);
        help(x, text + " with (0, 3)", 2, 1, 2);
        due("innocent(0)", x.innocent(0), 8);
        due("who(2)", x.who(2), 2);
    }

    private static void lostLives() {
        // a paradox: there must be lives, too
        help("y3;s9 0 0 1 2;s18 0 1 1 1;s0 0 2 2 2;t0 1 2;", -9, -9, -9);
        help("y3;s9 0 0 1 2;s18 0 1 1 1;s0 0 2 2 2;t0 1 2;d0 1;", 1, 0, -5);
        // two lives: not sure without a deed
        help("y3;s9 0 0 1 2;s0 0 1 1 1;s18 0 2 2 2;t0 1 2;d1 2;", 1, 10, -5);
    }

    /** What help has found must not outlive a change. */
    private static void helpBehindChanges() {
        String guilty = "y3;s8 0 0 0 0;s9 0 1 1 1;t0 1 2;d0 1;";
        LaterJury x = Check.told(guilty);
        help(x, "nothing done", 1, 0, -5);
        x.keep(0);
        x.does(1, 0);
        help(x, "mercy done", 0, -5, -5);
        x.undo();
        help(x, "mercy undone", 1, 0, -5);
        x.does(0, 0);
        help(x, "mercy done again", 0, -5, -5);
        x.takes(0);
        help(x, "mercy taken back", 1, 0, -5);
        x.does(0, 0);
        help(x, "mercy done once more", 0, -5, -5);
        x.back(0);
        help(x, "back", 1, 0, -5);
        Check.type(x, "y3;s8 0 0 0 0;t0 1 2;");
        x.court();
        help(x, "read anew", -9, -9, -9);
    }

    /** Each trial by itself: jury of the first is year 1, of the second year 2, of the third year 3. */
    private static void threeTrials() {
        LaterJury x = Check.told("y4;s8 0 0 0 0;s9 0 1 1 1;t0 1 1;t1 2 2;t2 3 3;d1 0;d0 1;");
        x.does(2, 1);
        int[] sure = {1, 2, 2};
        int[] many = {1, 0, 0};
        int[] first = {1, -5, -5};
        int[] innocent = {2, 3, 3};
        for (int t = 0; t < 3; t++) {
            due("sure(" + t + ")", x.sure(t), sure[t]);
            due("help(" + t + ", 0)", x.help(t, 0), many[t]);
            due("help(" + t + ", 1)", x.help(t, 1), first[t]);
            due("innocent(" + t + ")", x.innocent(t), innocent[t]);
            due("odds(" + t + ", 1)", x.odds(t, 1), t == 0 ? 2 : 1);
        }
    }

    /** A second state is the first that is not told: a deed that makes it helps nobody. */
    private static void helpByWhatIsNotTold() {
        help("y3;s8 0 0 0 0;t0 1 2;d0 1;d1 0;", -9, -9, -9);
        help("y3;s8 0 0 0 0;s9 0 2 2 2;t0 1 2;d0 2;d0 1;", 1, 1, -5);
    }

    private static void wrongHelp() {
        LaterJury x = Check.told("y3;s9 0 0 0 0;t0 1 2;");
        due("help(1, 0)", x.help(1, 0), -1);
        due("help(-1, 0)", x.help(-1, 0), -1);
        due("help(0, 3)", x.help(0, 3), -1);
        due("help(0, -1)", x.help(0, -1), -1);
    }

    /** Leans of years 1 .. 4: -5, 9, 2, 0, in a state each. */
    private static final String FOUR = "y5;s9 0 1 1 1;s4 0 2 2 2;s18 0 3 3 3;s11 0 4 4 4;s9 0 5 5 5;t0 1 4;";

    private static void strikes() {
        LaterJury x = Check.told(FOUR);
        due("lives()", x.lives(), 1);
        due("strikes(0, 0, 4)", x.strikes(0, 0, 4), 6);
        due("strikes(0, 0, 3)", x.strikes(0, 0, 3), -3);
        due("strikes(0, 0, 2)", x.strikes(0, 0, 2), 2);
        due("strikes(0, 0, 1)", x.strikes(0, 0, 1), 0);
        due("strikes(0, 0, 5)", x.strikes(0, 0, 5), -1000000);
        due("strikes(0, 0, 0)", x.strikes(0, 0, 0), -1000000);
        due("strikes(0, 0, 10)", x.strikes(0, 0, 10), -1000000);
        due("strikes(1, 0, 1)", x.strikes(1, 0, 1), -1000000);
        due("strikes(-1, 0, 1)", x.strikes(-1, 0, 1), -1000000);
        due("strikes(0, 1, 1)", x.strikes(0, 1, 1), -1000000);
        due("strikes(0, -1, 1)", x.strikes(0, -1, 1), -1000000);
        LaterJury y = Check.told("y16;s18 0 0 0 0;t0 1 15;");
        due("of 15, 9 are left", y.strikes(0, 0, 9), 81);
        due("of 15, 10 may not be asked", y.strikes(0, 0, 10), -1000000);
    }

    private static void theDeadAreNotStruck() {
        LaterJury x = Check.told("y5;s9 0 1 1 1;s4 0 2 2 2;s18 1 3 3 3;s11 0 4 4 4;s9 0 5 5 5;t0 1 4;q4;");
        due("sure(0)", x.sure(0), 0);
        due("strikes(0, 0, 4)", x.strikes(0, 0, 4), -1000000);
        due("strikes(0, 0, 3)", x.strikes(0, 0, 3), -3);
        due("strikes(0, 0, 2)", x.strikes(0, 0, 2), -5);
        due("strikes(0, 0, 1)", x.strikes(0, 0, 1), 0);
    }

    private static void innocence(String text, int bits, int upper, int lower) {
        LaterJury x = Check.told(text);
        due("innocent(0) of " + text, x.innocent(0), bits);
        due("odds(0, 0) of " + text, x.odds(0, 0), upper);
        due("odds(0, 1) of " + text, x.odds(0, 1), lower);
    }

    private static void innocentAndOdds() {
        innocence("y3;s8 0 0 1 2;s10 0 1 1 1;s8 0 2 2 2;t0 1 2;", 2, 1, 3);
        innocence("y3;s9 0 0 0 0;s8 0 1 1 1;s8 0 2 2 2;s18 0 3 3 3;t0 1 2;", 9, 1, 2);
        innocence("y3;s9 0 0 0 0;s9 0 0 0 0;t0 1 2;", 3, 1, 1);
        innocence("y3;s8 0 0 0 0;s8 0 0 0 0;t0 1 2;", 0, 0, 1);
        // 0 has a life with guilty, too; 1 is hung, being dead
        innocence("y3;s9 0 0 2 0;s9 1 1 1 1;s0 0 2 2 2;t0 1 2;", 0, 0, 1);
        innocence("y3;s9 0 0 0 0;s9 0 1 1 1;s9 0 2 2 2;s9 0 3 3 3;s8 0 4 4 4;s8 0 5 5 5;t0 1 2;", 15, 2, 3);
    }

    private static void oddsRefused() {
        LaterJury x = Check.told("y3;t0 1 2;");
        due("odds(0, 0) without states", x.odds(0, 0), -2);
        due("odds(0, 1) without states", x.odds(0, 1), -2);
        due("odds(1, 0)", x.odds(1, 0), -1);
        due("odds(-1, 0)", x.odds(-1, 0), -1);
        due("odds(0, 2)", x.odds(0, 2), -1);
        due("odds(0, -1)", x.odds(0, -1), -1);
        due("innocent(0) without states", x.innocent(0), 0);
        due("innocent(1)", x.innocent(1), -1);
        due("innocent(-1)", x.innocent(-1), -1);
        due("innocent(0) of a new object", new LaterJury().innocent(0), -1);
        due("odds(0, 0) of a new object", new LaterJury().odds(0, 0), -1);
    }

    /** What is done counts for every beginning. */
    private static void innocentByDeeds() {
        LaterJury x = Check.told("y3;s8 0 0 0 0;s9 0 1 1 1;t0 1 2;d0 1;");
        due("innocent(0)", x.innocent(0), 2);
        x.does(1, 0);
        due("innocent(0) behind a deed", x.innocent(0), 3);
        x.undo();
        due("innocent(0) behind undo()", x.innocent(0), 2);
    }

    public static void main(String[] args) {
        howMuchHelp();
        laterYears();
        behindThoseDone();
        triedInVain();
        lostLives();
        helpBehindChanges();
        threeTrials();
        helpByWhatIsNotTold();
        wrongHelp();
        strikes();
        theDeadAreNotStruck();
        innocentAndOdds();
        oddsRefused();
        innocentByDeeds();
        Check.end();
    }
}
