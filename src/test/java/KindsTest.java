/** Promises 26 to 30: marks, images, counts, the trace. */
public final class KindsTest {
    private static void due(String call, long got, long want) {
        Check.due(call, got, want);
    }

    private static void marks() {
        LaterJury x = Check.told("s4 1 5 1 2;s18 0 0 0 0;t0 1 2;t1 2 3;t2 3 4;d0 0;");
        x.does(0, 0);
        x.does(1, 0);
        int[] marksOf0 = {-5, 0, -7, 0, -4, 4};
        int[] marksOf1 = {9, 9, 7, 18, 10, 9};
        long[] traces = {1, 11, 101, 1011, 10101, 100001};
        long trace = 0;
        for (int kind = 0; kind < 6; kind++) {
            due("mark(" + kind + ", 0)", x.mark(kind, 0), marksOf0[kind]);
            trace += traces[kind];
            due("trace()", x.trace(), trace);
            due("mark(" + kind + ", 1)", x.mark(kind, 1), marksOf1[kind]);
            trace += traces[kind];
            due("trace()", x.trace(), trace);
        }
        for (int wrong : new int[] {-1, 6, Integer.MIN_VALUE, Integer.MAX_VALUE}) {
            due("mark(" + wrong + ", 0)", x.mark(wrong, 0), -1000000);
            due("mark(0, " + wrong + ")", x.mark(0, wrong), -1000000);
        }
        due("mark(0, 2)", x.mark(0, 2), -1000000);
        due("trace() behind what is refused", x.trace(), trace);
        due("mark() of a new object", new LaterJury().mark(0, 0), -1000000);
    }

    private static void images() {
        LaterJury x = Check.told("y4;s9 0 0 0 0;s9 0 1 1 1;d0 1;d1 0;");
        for (int wrong : new int[] {-1, 2, Integer.MAX_VALUE}) {
            due("keep(" + wrong + ")", x.keep(wrong), -1);
            due("back(" + wrong + ")", x.back(wrong), -1);
        }
        due("back(0) of none", x.back(0), -2);
        due("keep(0) of nothing done", x.keep(0), 0);
        x.does(1, 0);
        x.does(2, 1);
        due("keep(1)", x.keep(1), 2);
        x.takes(0);
        x.does(3, 1);
        x.undo();
        x.undo();
        x.undo();
        x.does(0, 0);
        due("back(1)", x.back(1), 2);
        due("count(8)", x.count(8), 2);
        due("done(0, 0)", x.done(0, 0), 1);
        due("done(1, 0)", x.done(1, 0), 2);
        due("self(0, 3)", x.self(0, 3), 0);
        due("undo()", x.undo(), 1);
        x.does(3, 0);
        due("back(1) again", x.back(1), 2);
        due("done(1, 0)", x.done(1, 0), 2);
        due("back(0)", x.back(0), 0);
        due("undo() behind back(0)", x.undo(), -2);
        due("keep(1) anew", x.keep(1), 0);
        due("back(1) anew", x.back(1), 0);
    }

    /** An image has its own past, which later deeds do not touch. */
    private static void imagesKeepThePast() {
        LaterJury x = Check.told("y4;s9 0 0 0 0;d0 0;d0 0;");
        x.does(1, 0);
        x.does(2, 1);
        x.takes(0);
        x.keep(0);
        x.undo();
        x.undo();
        x.undo();
        x.does(3, 0);
        x.does(3, 0);
        x.does(3, 0);
        due("back(0)", x.back(0), 1);
        due("done(0, 0)", x.done(0, 0), 2);
        due("undo()", x.undo(), 2);
        due("done(0, 0)", x.done(0, 0), 1);
        due("done(1, 1)", x.done(1, 1), 1);
        due("undo()", x.undo(), 1);
        due("done(0, 0)", x.done(0, 0), 1);
        due("done(1, 0)", x.done(1, 0), -1);
        due("undo()", x.undo(), 0);
        due("count(4)", x.count(4), 0);
    }

    private static void imageOfTenKnown() {
        LaterJury x = Check.told("y4;s9 0 0 0 0;d0 0;");
        for (int i = 0; i < 6; i++) {
            x.does(2, 0);
        }
        for (int i = 0; i < 6; i++) {
            x.takes(0);
        }
        due("keep(1)", x.keep(1), 0);
        x.does(3, 0);
        x.does(3, 0);
        x.does(3, 0);
        due("back(1)", x.back(1), 0);
        for (int i = 9; i >= 0; i--) {
            due("undo()", x.undo(), i);
        }
        due("count(4)", x.count(4), 2);
        due("done(0, 0)", x.done(0, 0), 2);
    }

    private static void nothingElseIsKept() {
        LaterJury x = Check.told("y4;s9 0 0 0 0;s9 0 1 1 1;d0 1;");
        x.keep(0);
        x.saw(0, 0);
        x.mark(0, 0);
        x.type(32);
        x.back(0);
        due("count(7)", x.count(7), 1);
        due("count(9)", x.count(9), 1);
        due("trace()", x.trace(), 1);
    }

    private static void counts() {
        LaterJury x = Check.told("y7;s9 0 0 0 0;s9 0 1 1 1;s9 0 1 1 1;b2;t0 1 2;q5;d0 1;d1 0;d2 0;d2 1;");
        x.does(1, 0);
        x.does(1, 0);
        x.takes(0);
        x.saw(0, 0);
        x.saw(0, 0);
        x.type(0);
        int[] counts = {7, 3, 1, 4, 1, 2, 5, 2, 3, 1};
        for (int what = 0; what < counts.length; what++) {
            due("count(" + what + ")", x.count(what), counts[what]);
        }
        for (int wrong : new int[] {-1, 10, Integer.MIN_VALUE, Integer.MAX_VALUE}) {
            due("count(" + wrong + ")", x.count(wrong), -1);
        }
        due("BEGIN that is not told", Check.told("s9 0 0 0 0;b1;").count(5), 0);
        due("BEGIN without states", Check.told("b1;").count(5), 0);
        due("BEGIN ahead of its state", Check.told("b1;s9 0 0 0 0;s9 0 0 0 0;").count(5), 1);
    }

    /** More than an int: a long run of marks can't reach it, so only that it adds up. */
    private static void traceAddsUp() {
        LaterJury x = Check.told("s9 0 0 0 0;");
        for (int i = 1; i <= 400; i++) {
            x.mark(5, 0);
        }
        due("trace()", x.trace(), 400L * 100001L);
    }

    public static void main(String[] args) {
        marks();
        images();
        imagesKeepThePast();
        imageOfTenKnown();
        nothingElseIsKept();
        counts();
        traceAddsUp();
        Check.end();
    }
}
