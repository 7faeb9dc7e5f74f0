/** Promises 1 to 7: a new object, the text, what it tells; where its faults are is asked by TextEdgesTest. */
public final class LifeTest {
    private static void due(String call, long got, long want) {
        Check.due(call, got, want);
    }

    private static void newObject() {
        LaterJury x = new LaterJury();
        int[] counts = {12, 0, 0, 0, 0, 0, 1, 0, 0, 0};
        for (int what = 0; what < counts.length; what++) {
            due("new: count(" + what + ")", x.count(what), counts[what]);
        }
        due("new: trace()", x.trace(), 0);
        due("new: state(0, 0)", x.state(0, 0), -1000000);
        due("new: trial(0, 0)", x.trial(0, 0), -1);
        due("new: deed(0, 0)", x.deed(0, 0), -1);
        due("new: lives()", x.lives(), 0);
        due("new: back(0)", x.back(0), -2);
    }

    private static void type() {
        LaterJury x = new LaterJury();
        due("type(-1)", x.type(-1), -1);
        due("type(256)", x.type(256), -1);
        due("type(0)", x.type(0), 1);
        due("type(255)", x.type(255), 2);
        for (int i = 3; i <= 200; i++) {
            due("type(32)", x.type(32), i);
        }
        due("type() of a 201st", x.type(32), -3);
        due("type(256), being full", x.type(256), -1);
        due("count(9)", x.count(9), 200);
    }

    private static void clear() {
        LaterJury x = new LaterJury();
        due("clear() of none", x.clear(), 0);
        Check.type(x, "y3");
        due("clear()", x.clear(), 2);
        due("clear() again", x.clear(), 0);
        due("court() behind clear()", x.court(), 0);
        due("count(0)", x.count(0), 12);
    }

    private static void faultChangesNothing() {
        LaterJury x = Check.told("y5;s3 1 1 2 3;b0;t1 2 3;q4;d1 2;");
        due("does(4, 0)", x.does(4, 0), 1);
        due("saw(0, 0)", x.saw(0, 0), 1);
        due("keep(0)", x.keep(0), 1);
        Check.type(x, "y7;s1 0 0 0 0;s1 0 0 0 0;q0;");
        due("court()", x.court(), -10 - 26);
        int[] counts = {5, 1, 1, 1, 1, 0, 4, 1, 1, 28};
        for (int what = 0; what < counts.length; what++) {
            due("behind a fault: count(" + what + ")", x.count(what), counts[what]);
        }
        due("state(0, 0)", x.state(0, 0), -6);
        due("back(0)", x.back(0), 1);
    }

    private static void readAnew() {
        LaterJury x = Check.told("y5;s3 0 1 2 3;s3 0 1 2 3;b1;t1 2 3;q4;d0 1;");
        x.does(1, 0);
        x.saw(0, 0);
        x.keep(0);
        x.keep(1);
        x.mark(3, 0);
        Check.type(x, "s0 0 0 0 0;");
        due("court()", x.court(), 1);
        int[] counts = {12, 1, 0, 0, 0, 0, 1, 0, 0, 0};
        for (int what = 0; what < counts.length; what++) {
            due("read anew: count(" + what + ")", x.count(what), counts[what]);
        }
        due("undo()", x.undo(), -2);
        due("back(0)", x.back(0), -2);
        due("back(1)", x.back(1), -2);
        due("trace()", x.trace(), 1011);
        due("court() of nothing", x.court(), 0);
        due("count(1)", x.count(1), 0);
    }

    /** Each text is read as if it were the first, whatever the last ones told or where they had their fault. */
    private static void readTwiceAnew() {
        LaterJury x = Check.told("y5;b1;q4;s3 0 1 2 3;s3 0 1 2 3;t1 2 3;d0 1;");
        for (int i = 0; i < 3; i++) {
            Check.type(x, "y6;q3;b1;s9 0 0 0 0;s9 0 0 0 0;t1 2 3;d0 0;d0 0;x");
            due("court() with a fault", x.court(), -10 - 48);
            x.clear();
            due("court() of nothing", x.court(), 0);
            int[] counts = {12, 0, 0, 0, 0, 0, 1, 0, 0, 0};
            for (int what = 0; what < counts.length; what++) {
                due("told nothing: count(" + what + ")", x.count(what), counts[what]);
            }
            Check.type(x, "s9 0 0 0 0;s9 0 0 0 0;");
            due("court()", x.court(), 2);
            due("count(5)", x.count(5), 0);
            Check.type(x, "b1;q2;y3;");
            due("court()", x.court(), 3);
        }
    }

    private static void whatIsTold() {
        LaterJury x = Check.told("s0 1 5 4 3;s18 0 0 1 2;t3 5 9;t4 6 6;d5 1;d0 4;");
        int[][] states = {{-9, 1, 5, 4, 3}, {9, 0, 0, 1, 2}};
        int[][] trials = {{3, 5, 9}, {4, 6, 6}};
        int[][] deeds = {{5, 1}, {0, 4}};
        for (int i = 0; i < 2; i++) {
            for (int what = 0; what < 5; what++) {
                due("state(" + i + ", " + what + ")", x.state(i, what), states[i][what]);
            }
            for (int what = 0; what < 3; what++) {
                due("trial(" + i + ", " + what + ")", x.trial(i, what), trials[i][what]);
            }
            for (int what = 0; what < 2; what++) {
                due("deed(" + i + ", " + what + ")", x.deed(i, what), deeds[i][what]);
            }
        }
        for (int wrong : new int[] {-1, 2, 6, Integer.MIN_VALUE, Integer.MAX_VALUE}) {
            due("state(" + wrong + ", 0)", x.state(wrong, 0), -1000000);
            due("trial(" + wrong + ", 0)", x.trial(wrong, 0), -1);
            due("deed(" + wrong + ", 0)", x.deed(wrong, 0), -1);
        }
        for (int wrong : new int[] {-1, 5, Integer.MIN_VALUE, Integer.MAX_VALUE}) {
            due("state(0, " + wrong + ")", x.state(0, wrong), -1000000);
            due("trial(0, " + wrong + ")", x.trial(0, wrong), -1);
            due("deed(0, " + wrong + ")", x.deed(0, wrong), -1);
        }
        due("trial(0, 3)", x.trial(0, 3), -1);
        due("deed(0, 2)", x.deed(0, 2), -1);
    }

    public static void main(String[] args) {
        newObject();
        type();
        clear();
        faultChangesNothing();
        readAnew();
        readTwiceAnew();
        whatIsTold();
        Check.end();
    }
}
