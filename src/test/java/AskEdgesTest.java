/** Sections 3 and 4 of the document, sentence by sentence: what is asked of lives, marks, images. */
public final class AskEdgesTest {
    private static void due(String call, long got, long want) {
        Check.due(call, got, want);
    }

    /** Behind hung one is dead, behind guilty bitter, behind an acquittal merciful: three lives. */
    private static final String THREE_LIVES = "y2;s9 1 0 1 2;s8 0 1 1 1;s9 0 2 2 2;t0 1 1;";
    /** Guilty makes one merciful, an acquittal bitter. */
    private static final String PARADOX = "y3;s9 0 0 1 2;s18 0 1 1 1;s0 0 2 2 2;t0 1 2;";

    // ---- SURE: the VERDICT that it has in all LIVES; -5: not one alone; NONE: there are no LIVES

    private static void sureOfEach() {
        due("HUNG", Check.told("y2;s9 1 0 0 0;t0 1 1;").sure(0), 0);
        due("GUILTY", Check.told("y2;s8 0 0 0 0;t0 1 1;").sure(0), 1);
        due("ACQUITTED", Check.told("y2;s9 0 0 0 0;t0 1 1;").sure(0), 2);
        due("not one alone", Check.told(THREE_LIVES).sure(0), -5);
        due("no lives", Check.told(PARADOX).sure(0), -9);
        due("no states", Check.told("t0 1 1;").sure(0), -9);
        due("no such trial", Check.told(THREE_LIVES).sure(1), -1);
    }

    /** Of two trials both may be sure, one alone, or none. */
    private static void sureOfOneOfTwo() {
        LaterJury x = Check.told("y3;s9 0 0 0 0;s9 0 1 2 3;s8 0 2 2 2;s9 0 3 3 3;b1;t0 1 2;t1 2 2;");
        // trial 0: guilty makes 2, an acquittal 3, which stay what they are; both trials are by them
        due("lives()", x.lives(), 2);
        due("sure(0)", x.sure(0), -5);
        due("sure(1)", x.sure(1), -5);
        LaterJury y = Check.told("y3;s9 0 0 0 0;s8 0 2 3 3;s8 0 2 2 3;s9 0 3 3 3;b1;t0 1 1;t1 2 2;");
        // hung makes 2, that is guilty; guilty makes 3, that acquits; an acquittal makes 3, and stays
        due("lives()", y.lives(), 1);
        due("sure(0)", y.sure(0), 2);
        due("sure(1)", y.sure(1), 2);
        LaterJury z = Check.told("y3;s9 0 0 0 0;s9 0 2 2 2;s9 0 2 4 3;s9 0 3 3 3;s8 0 4 4 4;b1;t0 1 1;t1 2 2;");
        // year 1 is 2 by any verdict, so acquitted; then guilty and an acquittal prove themselves
        due("lives()", z.lives(), 2);
        due("sure(0)", z.sure(0), 2);
        due("sure(1)", z.sure(1), -5);
    }

    // ---- WHO in a YEAR: STATES (bits) that one is in it by some LIFE

    private static void whoBySomeLife() {
        LaterJury x = Check.told(THREE_LIVES);
        due("who(0)", x.who(0), 1);
        due("who(1)", x.who(1), 7);
        due("no lives", Check.told(PARADOX).who(0), 0);
        due("no states", new LaterJury().who(0), 0);
        due("the sixth state", Check.told("y2;" + "s9 0 5 5 5;".repeat(6)).who(1), 32);
    }

    // ---- RING: from VERDICTS all HUNG on

    private static void ring(String text, int behind, int round) {
        // each by an object that was asked nothing else
        due("ring(0) of " + text, Check.told(text).ring(0), behind);
        due("ring(1) of " + text, Check.told(text).ring(1), round);
    }

    private static void ringFromHung() {
        ring("y2;s9 1 0 0 0;t0 1 1;", 0, 1);
        ring("y2;s8 0 0 0 0;t0 1 1;", 1, 1);
        ring(PARADOX, 1, 2);
        // hung comes round itself: guilty makes one dead
        ring("y4;s8 0 0 1 0;s18 1 1 1 1;t0 1 3;", 0, 2);
        // hung, guilty, an acquittal, hung: the longest of one trial
        ring("y2;s8 0 0 1 2;s9 0 1 1 1;s9 1 2 2 2;t0 1 1;", 0, 3);
    }

    private static void ringOfThreeTrials() {
        ring("y4;s9 0 0 0 0;t0 1 1;t1 2 2;t2 3 3;", 1, 1);
        ring("y4;s9 1 0 0 0;t0 1 1;t1 2 2;t2 3 3;", 0, 1);
        // each trial is of its own year: three that go through hung, guilty, an acquittal at once
        ring("y4;s8 0 0 1 2;s9 0 0 1 2;s9 1 0 1 2;t0 1 1;t1 2 2;t2 3 3;", 0, 3);
    }

    private static void ringWithoutStatesOrTrials() {
        ring("", 0, 0);
        ring("t0 1 1;t1 2 2;t2 3 3;", 0, 0);
        ring("s9 0 0 0 0;", 0, 1);
    }

    /** A deed changes the ring, and it is as it was behind undo(). */
    private static void ringByDeeds() {
        LaterJury x = Check.told(PARADOX + "d0 1;");
        due("ring(1)", x.ring(1), 2);
        x.does(0, 0);
        due("ring(1) behind a deed", x.ring(1), 1);
        x.undo();
        due("ring(1) behind undo()", x.ring(1), 2);
    }

    // ---- HELP: the fewest DEEDS more (0, 1, 2; behind those DONE, whatever how many these are)

    private static void help(LaterJury x, int t, int many, int first, int second) {
        due("help(" + t + ", 0)", x.help(t, 0), many);
        due("help(" + t + ", 1)", x.help(t, 1), first);
        due("help(" + t + ", 2)", x.help(t, 2), second);
    }

    private static void helpByNone() {
        help(Check.told("y2;s9 0 0 0 0;t0 1 1;d0 0;"), 0, 0, -5, -5);
    }

    private static void helpByOneInTheLastYear() {
        help(Check.told("y16;s8 0 0 0 0;s9 0 0 0 0;t14 15 15;d1 0;d1 0;d1 0;d0 1;"), 0, 1, 153, -5);
    }

    /** By way of 2, both in the last year: the row is in the order in which they are done. */
    private static void helpByTwoInTheLastYear() {
        String text = "y16;s8 0 0 0 0;s9 0 0 0 0;s8 0 0 0 0;t14 15 15;d1 0;d1 0;";
        help(Check.told(text + "d0 2;d2 1;"), 0, 2, 152, 153);
        help(Check.told(text + "d2 1;d0 2;"), 0, 2, 153, 152);
    }

    private static void helpByThreeIsNone() {
        String text = "y3;s8 0 0 0 0;s9 0 1 1 1;s8 0 2 2 2;s8 0 3 3 3;t0 1 2;d0 2;d2 3;d3 1;";
        help(Check.told(text), 0, -9, -9, -9);
        LaterJury x = Check.told(text);
        x.does(0, 0);
        help(x, 0, 2, 1, 2);
        x.does(0, 1);
        help(x, 0, 1, 2, -5);
        x.does(0, 2);
        help(x, 0, 0, -5, -5);
    }

    private static void helpWithSixDone() {
        LaterJury x = Check.told("y3;s8 0 0 0 0;s9 0 1 1 1;s8 0 2 2 2;t0 1 2;d0 0;d2 1;d0 2;");
        for (int i = 0; i < 6; i++) {
            x.does(i % 3, 0);
        }
        due("does() a seventh", x.does(0, 1), -3);
        help(x, 0, 2, 2, 1);
        due("nothing is done", x.count(4), 6);
        due("nothing is to be undone", x.count(8), 6);
    }

    private static void helpOfSeveralTheFirst() {
        // any year ahead of the jury will do, and either kind
        help(Check.told("y4;s8 0 0 0 0;s9 0 1 1 1;t0 2 3;d0 1;d0 1;"), 0, 1, 0, -5);
        // in year 0 kind 1 alone
        help(Check.told("y4;s8 0 0 0 0;s9 0 1 1 1;t0 2 3;d1 0;d0 1;"), 0, 1, 1, -5);
        // two needed: 0 to 2 as early as can be, 2 to 1 at once
        help(Check.told("y4;s8 0 0 0 0;s9 0 1 1 1;s8 0 2 2 2;t0 2 3;d2 1;d0 2;"), 0, 2, 1, 0);
    }

    /** There must be lives, and guilty in none of them: each of two deeds is for one verdict of a later trial. */
    private static void helpByBothVerdicts() {
        LaterJury x = Check.told("y4;s8 0 0 1 2;s8 0 0 0 0;s8 0 0 0 0;s10 0 3 3 3;s9 0 0 0 0;b4;"
                + "t0 1 1;t2 3 3;d1 3;d2 3;");
        help(x, 1, 2, 30, 31);
        help(x, 0, -9, -9, -9);
    }

    /** Years go on behind the last of three trials, and there the jury of each of them can be helped. */
    private static void helpBehindThreeTrials() {
        LaterJury x = Check.told("y16;s8 0 0 0 0;s9 0 0 0 0;t0 15 15;t1 14 14;t2 13 13;d1 0;d0 1;");
        help(x, 0, 1, 151, -5);
        help(x, 1, 1, 141, -5);
        help(x, 2, 1, 131, -5);
        help(x, 3, -1, -1, -1);
    }

    /** One is 2 in every other year alone, and only there the deed meets somebody. */
    private static void helpWhereOneIsMet() {
        help(Check.told("y4;s8 0 2 2 2;s9 0 1 1 1;s8 0 0 0 0;t0 2 3;d2 1;"), 0, 1, 10, -5);
    }

    /** A life that is hung is not an acquittal. */
    private static void helpAgainstHung() {
        LaterJury x = Check.told("y3;s9 0 1 1 2;s9 1 1 1 1;s9 0 2 2 2;t0 1 2;d1 2;");
        due("lives()", x.lives(), 2);
        due("innocent(0)", x.innocent(0), 4);
        help(x, 0, 1, 10, -5);
    }

    private static void helpIsNone() {
        help(Check.told("y3;s8 0 0 0 0;t0 1 2;"), 0, -9, -9, -9);
        help(Check.told("y16;s8 0 0 0 0;s8 0 1 1 1;t0 1 15;d0 1;d1 0;"), 0, -9, -9, -9);
        help(Check.told(PARADOX), 0, -9, -9, -9);
        help(Check.told("y3;t0 1 2;d0 1;"), 0, -9, -9, -9);
        help(Check.told("y3;s8 0 0 0 0;t0 1 2;"), 1, -1, -1, -1);
        help(new LaterJury(), 0, -1, -1, -1);
    }

    // ---- STRIKES, k (1 .. 9) to be left

    /** Leans of years 1 .. 5: 5, -4, 3, -2, 1, in a state each. */
    private static final String FIVE = "y6;s9 0 1 1 1;s14 0 2 2 2;s5 0 3 3 3;s12 0 4 4 4;s7 0 5 5 5;s10 0 5 5 5;t0 1 5;";

    private static void strikesInTurn() {
        LaterJury x = Check.told(FIVE);
        // none; 5; 5, -4; 5, -4, 3; 5, -4, 3, -2
        int[] want = {1, -1, 2, -2, 3};
        for (int k = 1; k <= 5; k++) {
            due("strikes(0, 0, " + k + ")", x.strikes(0, 0, k), want[k - 1]);
        }
        due("strikes(0, 0, 6)", x.strikes(0, 0, 6), -1000000);
        due("strikes(0, 0, 0)", x.strikes(0, 0, 0), -1000000);
    }

    private static void strikesOneToNine() {
        LaterJury x = Check.told("y16;s10 0 0 0 0;t0 1 15;t1 7 15;t2 8 15;");
        for (int k = 1; k <= 9; k++) {
            due("strikes(0, 0, " + k + ")", x.strikes(0, 0, k), k);
        }
        due("k 10", x.strikes(0, 0, 10), -1000000);
        due("k 0", x.strikes(0, 0, 0), -1000000);
        due("k -1", x.strikes(0, 0, -1), -1000000);
        due("nine of nine", x.strikes(0, 1, 9), 9);
        due("nine of eight", x.strikes(0, 2, 9), -1000000);
        due("eight of eight", x.strikes(0, 2, 8), 8);
    }

    /** The dead are none that can be left, nor struck. */
    private static void strikesWithoutTheDead() {
        LaterJury x = Check.told("y4;s9 0 1 1 1;s14 0 2 2 2;s18 1 3 3 3;s4 0 3 3 3;t0 1 3;");
        due("strikes(0, 0, 2)", x.strikes(0, 0, 2), 0);
        due("strikes(0, 0, 1)", x.strikes(0, 0, 1), -5);
        due("strikes(0, 0, 3)", x.strikes(0, 0, 3), -1000000);
        due("all dead", Check.told("y2;s9 1 0 0 0;t0 1 1;").strikes(0, 0, 1), -1000000);
    }

    // ---- INNOCENT: STATES (bits) that, being BEGIN, have LIVES, in all of which it is ACQUITTED

    private static void innocent(String text, int want) {
        due("innocent(0) of " + text, Check.told(text).innocent(0), want);
    }

    private static void innocentInAllLives() {
        // 0 has three lives, 1 and 2 one each
        innocent(THREE_LIVES, 4);
        // 0 has no life at all; 1 is merciful, 2 bitter
        innocent(PARADOX, 2);
        innocent("y2;" + "s9 0 5 5 5;".repeat(6) + "t0 1 1;", 63);
        innocent("y2;" + "s9 0 5 5 5;".repeat(5) + "s8 0 5 5 5;t0 1 1;", 0);
        innocent("t0 1 1;", 0);
        // BEGIN as told is no matter
        innocent("b2;" + THREE_LIVES, 4);
    }

    // ---- ODDS: how many of all STATES these are: a fraction, in least terms

    /** So many states that acquit, and so many that don't. */
    private static void odds(int mercy, int bitter, int upper, int lower) {
        StringBuilder text = new StringBuilder("y2;t0 1 1;");
        for (int s = 0; s < mercy + bitter; s++) {
            String stays = " " + s;
            text.append(s < mercy ? "s9 0" : "s8 0").append(stays.repeat(3)).append(';');
        }
        due(mercy + " of " + (mercy + bitter) + ": upper", Check.told(text.toString()).odds(0, 0), upper);
        due(mercy + " of " + (mercy + bitter) + ": lower", Check.told(text.toString()).odds(0, 1), lower);
    }

    private static void oddsInLeastTerms() {
        odds(0, 1, 0, 1);
        odds(1, 0, 1, 1);
        odds(0, 6, 0, 1);
        odds(6, 0, 1, 1);
        odds(1, 5, 1, 6);
        odds(2, 4, 1, 3);
        odds(3, 3, 1, 2);
        odds(4, 2, 2, 3);
        odds(5, 1, 5, 6);
        odds(2, 2, 1, 2);
        odds(3, 2, 3, 5);
    }

    // ---- SEEN (6 at most); FITS; LAW by another QUORUM k (1 .. 9)

    private static void sixSeen() {
        LaterJury x = Check.told("y2;s9 0 0 0 0;");
        for (int i = 1; i <= 6; i++) {
            due("saw()", x.saw(i % 2, 0), i);
        }
        due("saw() a seventh", x.saw(0, 0), -3);
        due("fits()", x.fits(), 1);
        due("forget()", x.forget(), 6);
        due("forget() again", x.forget(), 0);
        due("saw() where there is room again", x.saw(1, 0), 1);
    }

    private static void fitsByOneLife() {
        LaterJury x = Check.told(THREE_LIVES);
        due("nothing seen", x.fits(), 7);
        x.saw(1, 2);
        due("by the last of three lives", x.fits(), 5);
        x.saw(0, 0);
        due("by both", x.fits(), 1);
        x.saw(1, 1);
        due("each by a life, not all by one", x.fits(), 0);
        due("a paradox has no life that fits", Check.told(PARADOX).fits(), 6);
        due("all six", Check.told("s9 0 0 0 0;".repeat(6)).fits(), 63);
    }

    /** What was seen in year 0 is who one is behind the deeds of that year. */
    private static void seenBehindDeeds() {
        LaterJury x = Check.told("y2;s9 0 0 0 0;s9 0 1 1 1;d0 1;");
        x.saw(0, 1);
        due("fits()", x.fits(), 2);
        x.does(0, 0);
        due("fits() behind a deed", x.fits(), 3);
    }

    /** Eight jurors: nine are too many to ask for, and each trial is hung then. */
    private static void lawOneToNine() {
        LaterJury x = Check.told("y10;s9 0 0 1 2;s0 0 1 1 1;s18 0 2 2 2;t0 1 8;q9;");
        due("lives()", x.lives(), 1);
        for (int k = 1; k <= 8; k++) {
            due("quorum(" + k + ")", x.quorum(k), 2);
        }
        due("quorum(9)", x.quorum(9), 1);
        due("quorum(0)", x.quorum(0), -1);
        due("quorum(10)", x.quorum(10), -1);
        due("the law stays", x.count(6), 9);
        due("lives() behind it", x.lives(), 1);
    }

    // ---- MARK, THE TRACE

    private static void mark(LaterJury x, int kind, int s, int want, long trace) {
        long ahead = x.trace();
        due("mark(" + kind + ", " + s + ")", x.mark(kind, s), want);
        due("trace() behind mark(" + kind + ", " + s + ")", x.trace() - ahead, trace);
    }

    /** LEAN -9, dead, 5 (not told) without a verdict; six deeds done, three trials. */
    private static void marksAtTheirLeast() {
        LaterJury x = Check.told("s0 1 5 0 0;t0 1 1;t1 2 2;t2 3 3;d0 0;");
        for (int i = 0; i < 6; i++) {
            x.does(0, 0);
        }
        mark(x, 0, 0, -9, 1);
        mark(x, 1, 0, -4, 11);
        mark(x, 2, 0, -15, 101);
        mark(x, 3, 0, -8, 1011);
        mark(x, 4, 0, -12, 10101);
        mark(x, 5, 0, 0, 100001);
        mark(x, 6, 0, -1000000, 0);
        mark(x, -1, 0, -1000000, 0);
        mark(x, 0, 1, -1000000, 0);
        mark(x, 5, -1, -1000000, 0);
    }

    private static void marksOfTheSixth() {
        LaterJury x = Check.told("s0 0 0 0 0;".repeat(5) + "s18 0 5 0 0;d0 0;");
        mark(x, 0, 5, 9, 1);
        mark(x, 1, 5, 14, 11);
        mark(x, 2, 5, 9, 101);
        mark(x, 3, 5, 28, 1011);
        mark(x, 4, 5, 9, 10101);
        mark(x, 5, 5, 9, 100001);
    }

    // ---- IMAGES 0, 1 keep what is DONE and what may be UNDONE; nothing else

    private static void imagesApart() {
        LaterJury x = Check.told("y3;s9 0 0 0 0;d0 0;");
        due("back(0) of none", x.back(0), -2);
        due("back(1) of none", x.back(1), -2);
        due("keep(0)", x.keep(0), 0);
        due("back(1), as 0 alone was kept", x.back(1), -2);
        x.does(1, 0);
        due("keep(1)", x.keep(1), 1);
        x.does(2, 0);
        due("back(0)", x.back(0), 0);
        due("back(0): nothing to be undone", x.undo(), -2);
        due("back(1)", x.back(1), 1);
        due("back(1): done(0, 0)", x.done(0, 0), 1);
        due("back(1): one to be undone", x.undo(), 0);
        due("an image stays", x.back(1), 1);
        due("back() itself can't be undone", x.count(8), 1);
    }

    private static void fullImage() {
        LaterJury x = Check.told("y16;s9 0 0 0 0;d0 0;");
        for (int i = 0; i < 6; i++) {
            x.does(i, 0);
        }
        due("keep(0)", x.keep(0), 6);
        for (int i = 0; i < 6; i++) {
            x.takes(0);
        }
        due("count(8)", x.count(8), 10);
        due("back(0)", x.back(0), 6);
        due("count(8)", x.count(8), 6);
        due("does()", x.does(0, 0), -3);
        for (int i = 0; i < 6; i++) {
            due("done(" + i + ", 0)", x.done(i, 0), i);
        }
        for (int i = 5; i >= 0; i--) {
            due("undo()", x.undo(), i);
            due("count(4)", x.count(4), i);
        }
    }

    // ---- (Read anew: as told, nothing DONE, SEEN or to be UNDONE, IMAGES are gone.)

    private static void readAnew() {
        String text = "y3;s9 0 0 0 0;d0 0;";
        LaterJury x = Check.told(text);
        x.does(1, 0);
        x.saw(1, 0);
        x.keep(0);
        x.keep(1);
        x.mark(0, 0);
        // the same text once more tells the same, and yet all else is gone
        Check.type(x, text);
        due("court()", x.court(), 3);
        due("nothing done", x.count(4), 0);
        due("done(0, 0)", x.done(0, 0), -1);
        due("nothing seen", x.count(7), 0);
        due("nothing to be undone", x.undo(), -2);
        due("image 0 is gone", x.back(0), -2);
        due("image 1 is gone", x.back(1), -2);
        due("an empty text", x.count(9), 0);
        due("the trace stays", x.trace(), 1);
    }

    public static void main(String[] args) {
        sureOfEach();
        sureOfOneOfTwo();
        whoBySomeLife();
        ringFromHung();
        ringOfThreeTrials();
        ringWithoutStatesOrTrials();
        ringByDeeds();
        helpByNone();
        helpByOneInTheLastYear();
        helpByTwoInTheLastYear();
        helpByThreeIsNone();
        helpWithSixDone();
        helpOfSeveralTheFirst();
        helpByBothVerdicts();
        helpBehindThreeTrials();
        helpWhereOneIsMet();
        helpAgainstHung();
        helpIsNone();
        strikesInTurn();
        strikesOneToNine();
        strikesWithoutTheDead();
        innocentInAllLives();
        oddsInLeastTerms();
        sixSeen();
        fitsByOneLife();
        seenBehindDeeds();
        lawOneToNine();
        marksAtTheirLeast();
        marksOfTheSixth();
        imagesApart();
        fullImage();
        readAnew();
        Check.end();
    }
}
