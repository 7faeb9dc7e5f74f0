/** The row of refusals: what is refused changes nothing, and the first of BAD, STATE, FULL is what is answered. */
public final class RefusalsTest {
    private static final int BAD = -1, STATE = -2, FULL = -3, NO = -1000000;

    private interface Call {
        long ask(LaterJury x, int[] a);
    }

    private interface Made {
        LaterJury anew();
    }

    private static int[] from(int low, int high) {
        return new int[] {low, high};
    }

    /** Something of everything: 3 years and states, 2 lives of a trial, 2 done, 2 seen, image 0, marks, a text. */
    private static LaterJury busy() {
        LaterJury x = Check.told("y3;s9 0 0 1 2;s0 0 1 1 1;s18 0 2 2 2;t0 1 2;d0 1;d1 2;");
        x.does(0, 1);
        x.does(1, 1);
        x.keep(0);
        x.takes(1);
        x.does(2, 0);
        x.saw(1, 1);
        x.saw(2, 1);
        x.mark(3, 0);
        Check.type(x, "y4;s0 0 0 0 0;");
        return x;
    }

    /** As many deeds, sights and bytes as there may be. */
    private static LaterJury full() {
        LaterJury x = Check.told("y3;s9 0 0 0 0;s9 0 1 1 1;t0 1 2;d0 1;d1 0;");
        for (int i = 0; i < 6; i++) {
            x.does(i % 3, i % 2);
            x.saw(i % 3, i % 2);
        }
        Check.type(x, " ".repeat(197) + "q2;");
        return x;
    }

    private static String told(String name, int[] a) {
        StringBuilder call = new StringBuilder(name).append('(');
        for (int i = 0; i < a.length; i++) {
            call.append(i == 0 ? "" : ", ").append(a[i]);
        }
        return call.append(')').toString();
    }

    private static void refused(Made made, String name, long want, Call call, int... a) {
        LaterJury x = made.anew();
        Check.due(told(name, a), call.ask(x, a), want);
        Twin.alike(told(name, a), x, made.anew());
    }

    /** Each number in turn is just off its bounds, and far off, while the others are at one of theirs. */
    private static void offBounds(String name, long want, Call call, int[]... bounds) {
        for (int p = 0; p < bounds.length; p++) {
            int[] wrong = {bounds[p][0] - 1, bounds[p][1] + 1, Integer.MIN_VALUE, Integer.MAX_VALUE};
            for (int value : wrong) {
                for (int side = 0; side < 2; side++) {
                    int[] a = new int[bounds.length];
                    for (int i = 0; i < a.length; i++) {
                        a[i] = i == p ? value : bounds[i][side];
                    }
                    refused(RefusalsTest::busy, name, want, call, a);
                }
            }
        }
        atBounds(name, want, call, bounds);
    }

    /** At its bounds the call is not refused: else nothing would tell that the bounds here are those of the document. */
    private static void atBounds(String name, long refusal, Call call, int[]... bounds) {
        for (int side = 0; side < 2; side++) {
            int[] a = new int[bounds.length];
            for (int i = 0; i < a.length; i++) {
                a[i] = bounds[i][side];
            }
            Check.due(told(name, a) + " is refused", call.ask(busy(), a) == refusal ? 1 : 0, 0);
        }
    }

    private static void badNumbers() {
        offBounds("type", BAD, (x, a) -> x.type(a[0]), from(0, 255));
        offBounds("state", NO, (x, a) -> x.state(a[0], a[1]), from(0, 2), from(0, 4));
        offBounds("trial", BAD, (x, a) -> x.trial(a[0], a[1]), from(0, 0), from(0, 2));
        offBounds("deed", BAD, (x, a) -> x.deed(a[0], a[1]), from(0, 1), from(0, 1));
        offBounds("does", BAD, (x, a) -> x.does(a[0], a[1]), from(0, 2), from(0, 1));
        offBounds("takes", BAD, (x, a) -> x.takes(a[0]), from(0, 1));
        offBounds("done", BAD, (x, a) -> x.done(a[0], a[1]), from(0, 1), from(0, 1));
        offBounds("verdict", BAD, (x, a) -> x.verdict(a[0], a[1]), from(0, 1), from(0, 0));
        offBounds("self", BAD, (x, a) -> x.self(a[0], a[1]), from(0, 1), from(0, 2));
        offBounds("sure", BAD, (x, a) -> x.sure(a[0]), from(0, 0));
        offBounds("who", BAD, (x, a) -> x.who(a[0]), from(0, 2));
        offBounds("ring", BAD, (x, a) -> x.ring(a[0]), from(0, 1));
        offBounds("help", BAD, (x, a) -> x.help(a[0], a[1]), from(0, 0), from(0, 2));
        // two jurors, so that the third number ends at 2 here
        offBounds("strikes", NO, (x, a) -> x.strikes(a[0], a[1], a[2]), from(0, 1), from(0, 0), from(1, 2));
        offBounds("innocent", BAD, (x, a) -> x.innocent(a[0]), from(0, 0));
        offBounds("odds", BAD, (x, a) -> x.odds(a[0], a[1]), from(0, 0), from(0, 1));
        offBounds("saw", BAD, (x, a) -> x.saw(a[0], a[1]), from(0, 2), from(0, 2));
        offBounds("quorum", BAD, (x, a) -> x.quorum(a[0]), from(1, 9));
        offBounds("mark", NO, (x, a) -> x.mark(a[0], a[1]), from(0, 5), from(0, 2));
        offBounds("keep", BAD, (x, a) -> x.keep(a[0]), from(0, 1));
        offBounds("count", BAD, (x, a) -> x.count(a[0]), from(0, 9));
        // image 1 was not kept, which is STATE: not refused as BAD
        offBounds("back", BAD, (x, a) -> x.back(a[0]), from(0, 1));
    }

    private static void badAheadOfFull() {
        refused(RefusalsTest::full, "type", BAD, (x, a) -> x.type(a[0]), 256);
        refused(RefusalsTest::full, "type", BAD, (x, a) -> x.type(a[0]), -1);
        refused(RefusalsTest::full, "does", BAD, (x, a) -> x.does(a[0], a[1]), 3, 0);
        refused(RefusalsTest::full, "does", BAD, (x, a) -> x.does(a[0], a[1]), -1, 0);
        refused(RefusalsTest::full, "does", BAD, (x, a) -> x.does(a[0], a[1]), 0, 2);
        refused(RefusalsTest::full, "does", BAD, (x, a) -> x.does(a[0], a[1]), 0, -1);
        refused(RefusalsTest::full, "saw", BAD, (x, a) -> x.saw(a[0], a[1]), 3, 0);
        refused(RefusalsTest::full, "saw", BAD, (x, a) -> x.saw(a[0], a[1]), -1, 0);
        refused(RefusalsTest::full, "saw", BAD, (x, a) -> x.saw(a[0], a[1]), 0, 2);
        refused(RefusalsTest::full, "saw", BAD, (x, a) -> x.saw(a[0], a[1]), 0, -1);
    }

    private static void fullOf() {
        refused(RefusalsTest::full, "type", FULL, (x, a) -> x.type(a[0]), 0);
        refused(RefusalsTest::full, "type", FULL, (x, a) -> x.type(a[0]), 255);
        refused(RefusalsTest::full, "does", FULL, (x, a) -> x.does(a[0], a[1]), 0, 0);
        refused(RefusalsTest::full, "does", FULL, (x, a) -> x.does(a[0], a[1]), 2, 1);
        refused(RefusalsTest::full, "saw", FULL, (x, a) -> x.saw(a[0], a[1]), 0, 0);
        refused(RefusalsTest::full, "saw", FULL, (x, a) -> x.saw(a[0], a[1]), 2, 1);
    }

    private static LaterJury withoutStates() {
        LaterJury x = Check.told("y3;t0 1 2;d0 1;");
        Check.type(x, "q3;");
        return x;
    }

    private static void badAheadOfState() {
        refused(RefusalsTest::withoutStates, "odds", BAD, (x, a) -> x.odds(a[0], a[1]), 1, 0);
        refused(RefusalsTest::withoutStates, "odds", BAD, (x, a) -> x.odds(a[0], a[1]), -1, 0);
        refused(RefusalsTest::withoutStates, "odds", BAD, (x, a) -> x.odds(a[0], a[1]), 0, 2);
        refused(RefusalsTest::withoutStates, "odds", BAD, (x, a) -> x.odds(a[0], a[1]), 0, -1);
        refused(RefusalsTest::withoutStates, "back", BAD, (x, a) -> x.back(a[0]), 2);
        refused(RefusalsTest::withoutStates, "back", BAD, (x, a) -> x.back(a[0]), -1);
    }

    private static void stateOf() {
        refused(RefusalsTest::withoutStates, "odds", STATE, (x, a) -> x.odds(a[0], a[1]), 0, 0);
        refused(RefusalsTest::withoutStates, "odds", STATE, (x, a) -> x.odds(a[0], a[1]), 0, 1);
        refused(RefusalsTest::withoutStates, "undo", STATE, (x, a) -> x.undo());
        refused(RefusalsTest::withoutStates, "back", STATE, (x, a) -> x.back(a[0]), 0);
        refused(RefusalsTest::withoutStates, "back", STATE, (x, a) -> x.back(a[0]), 1);
        refused(RefusalsTest::busy, "back", STATE, (x, a) -> x.back(a[0]), 1);
    }

    /** There is no such thing: a new object has no states, trials, kinds of deeds, deeds done or lives. */
    private static void nothingInANewObject() {
        Made made = LaterJury::new;
        refused(made, "state", NO, (x, a) -> x.state(a[0], a[1]), 0, 0);
        refused(made, "trial", BAD, (x, a) -> x.trial(a[0], a[1]), 0, 0);
        refused(made, "deed", BAD, (x, a) -> x.deed(a[0], a[1]), 0, 0);
        refused(made, "does", BAD, (x, a) -> x.does(a[0], a[1]), 0, 0);
        refused(made, "takes", BAD, (x, a) -> x.takes(a[0]), 0);
        refused(made, "done", BAD, (x, a) -> x.done(a[0], a[1]), 0, 0);
        refused(made, "undo", STATE, (x, a) -> x.undo());
        refused(made, "verdict", BAD, (x, a) -> x.verdict(a[0], a[1]), 0, 0);
        refused(made, "self", BAD, (x, a) -> x.self(a[0], a[1]), 0, 0);
        refused(made, "sure", BAD, (x, a) -> x.sure(a[0]), 0);
        refused(made, "help", BAD, (x, a) -> x.help(a[0], a[1]), 0, 0);
        refused(made, "strikes", NO, (x, a) -> x.strikes(a[0], a[1], a[2]), 0, 0, 1);
        refused(made, "innocent", BAD, (x, a) -> x.innocent(a[0]), 0);
        refused(made, "odds", BAD, (x, a) -> x.odds(a[0], a[1]), 0, 0);
        refused(made, "saw", BAD, (x, a) -> x.saw(a[0], a[1]), 0, 0);
        refused(made, "mark", NO, (x, a) -> x.mark(a[0], a[1]), 0, 0);
        refused(made, "back", STATE, (x, a) -> x.back(a[0]), 0);
    }

    /** A text with a fault: nothing changes, the text itself too. */
    private static LaterJury misspelt(String fault) {
        LaterJury x = busy();
        Check.type(x, fault);
        return x;
    }

    private static void faultChangesNothing() {
        // fourteen bytes stand ahead, which would tell other years and one state
        refused(() -> misspelt("s0 0 0 0 6;"), "court", -10 - 23, (x, a) -> x.court());
        refused(() -> misspelt("t0 1 1;t2 3 3;y4;"), "court", -10 - 28, (x, a) -> x.court());
        refused(() -> misspelt("b0;q9;d5 5;#"), "court", -10 - 25, (x, a) -> x.court());
        refused(() -> misspelt("q9"), "court", -10 - 16, (x, a) -> x.court());
    }

    /** Section 3: nothing is changed by asking, as it was not refused. */
    private static void askingChangesNothing() {
        for (Made made : new Made[] {RefusalsTest::busy, RefusalsTest::full, RefusalsTest::withoutStates}) {
            LaterJury x = made.anew();
            x.lives();
            x.verdict(1, 0);
            x.self(1, 2);
            x.sure(0);
            x.who(2);
            x.ring(1);
            x.help(0, 0);
            x.strikes(0, 0, 1);
            x.innocent(0);
            x.odds(0, 1);
            x.fits();
            x.quorum(9);
            x.state(1, 1);
            x.trial(0, 1);
            x.deed(1, 1);
            x.done(1, 1);
            x.trace();
            Twin.alike("asking", x, made.anew());
        }
    }

    public static void main(String[] args) {
        badNumbers();
        badAheadOfFull();
        fullOf();
        badAheadOfState();
        stateOf();
        nothingInANewObject();
        faultChangesNothing();
        askingChangesNothing();
        Check.end();
    }
}
