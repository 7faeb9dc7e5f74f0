/** Promises 8 to 11: deeds done, taken back, undone. */
public final class DeedsTest {
    private static void due(String call, long got, long want) {
        Check.due(call, got, want);
    }

    private static final String COURT = "y4;s9 0 0 0 0;s9 0 1 1 1;s9 0 2 2 2;d0 1;d1 2;";

    private static void does() {
        LaterJury x = Check.told(COURT);
        due("does(4, 0)", x.does(4, 0), -1);
        due("does(-1, 0)", x.does(-1, 0), -1);
        due("does(0, 2)", x.does(0, 2), -1);
        due("does(0, -1)", x.does(0, -1), -1);
        due("nothing done", x.count(4), 0);
        due("nothing to be undone", x.count(8), 0);
        for (int i = 1; i <= 6; i++) {
            due("does(3, 1)", x.does(3, 1), i);
        }
        due("does() a seventh", x.does(3, 1), -3);
        due("does(4, 1), being full", x.does(4, 1), -1);
        due("count(8)", x.count(8), 6);
    }

    private static void orderOfDone() {
        LaterJury x = Check.told(COURT);
        x.does(1, 1);
        x.does(1, 0);
        // 1 to 2 first meets nobody, then 0 becomes 1
        due("self(0, 0)", x.self(0, 0), 0);
        due("self(0, 1)", x.self(0, 1), 1);
        due("self(0, 3)", x.self(0, 3), 1);
        x.takes(0);
        x.does(1, 1);
        due("self(0, 1)", x.self(0, 1), 2);
        x.takes(0);
        x.does(0, 0);
        due("deed in year 0", x.self(0, 0), 1);
        due("deed in year 1", x.self(0, 1), 2);
    }

    private static void becomesWhatIsNotTold() {
        LaterJury x = Check.told("y3;s9 0 5 5 5;s9 0 0 0 0;d0 4;d4 1;");
        x.does(1, 0);
        x.does(1, 1);
        due("who(0)", x.who(0), 1);
        due("who(1)", x.who(1), 1);
        due("who(2)", x.who(2), 1);
        LaterJury y = Check.told("y3;s9 0 1 1 1;d0 1;");
        y.does(1, 0);
        due("the first that is not told", y.who(1), 1);
        due("the first that is not told", y.who(2), 1);
    }

    private static void takesAndDone() {
        LaterJury x = Check.told(COURT);
        due("takes(0) of none", x.takes(0), -1);
        due("done(0, 0) of none", x.done(0, 0), -1);
        x.does(0, 1);
        x.does(1, 0);
        x.does(2, 1);
        due("takes(3)", x.takes(3), -1);
        due("takes(-1)", x.takes(-1), -1);
        due("takes(1)", x.takes(1), 2);
        due("done(0, 0)", x.done(0, 0), 0);
        due("done(0, 1)", x.done(0, 1), 1);
        due("done(1, 0)", x.done(1, 0), 2);
        due("done(1, 1)", x.done(1, 1), 1);
        due("done(2, 0)", x.done(2, 0), -1);
        due("done(-1, 0)", x.done(-1, 0), -1);
        due("done(0, 2)", x.done(0, 2), -1);
        due("done(0, -1)", x.done(0, -1), -1);
        due("takes(1)", x.takes(1), 1);
        due("takes(0)", x.takes(0), 0);
        due("takes(0)", x.takes(0), -1);
    }

    private static void undo() {
        LaterJury x = Check.told(COURT);
        due("undo() of none", x.undo(), -2);
        x.does(0, 1);
        x.does(1, 0);
        x.does(2, 1);
        x.saw(0, 0);
        x.takes(0);
        due("undo() of a deed taken back", x.undo(), 3);
        due("count(4)", x.count(4), 3);
        due("done(0, 0)", x.done(0, 0), 0);
        due("done(2, 0)", x.done(2, 0), 2);
        due("what was seen stays", x.count(7), 1);
        due("undo() of a deed done", x.undo(), 2);
        due("count(4)", x.count(4), 2);
        due("does() behind undo()", x.does(3, 0), 3);
        due("done(2, 0)", x.done(2, 0), 3);
        due("undo()", x.undo(), 2);
        due("undo()", x.undo(), 1);
        due("undo()", x.undo(), 0);
        due("undo()", x.undo(), -2);
        due("count(4)", x.count(4), 0);
    }

    private static void tenAreKnown() {
        LaterJury x = Check.told(COURT);
        for (int i = 0; i < 4; i++) {
            x.does(i, 0);
        }
        for (int i = 0; i < 4; i++) {
            x.takes(0);
            x.does(i, 1);
        }
        due("count(8)", x.count(8), 10);
        due("does(9, 9), refused, is not known", x.does(9, 9), -1);
        for (int i = 9; i >= 0; i--) {
            due("undo()", x.undo(), i);
        }
        due("undo() of the eleventh", x.undo(), -2);
        due("two deeds are lost", x.count(4), 2);
        due("done(0, 0)", x.done(0, 0), 0);
        due("done(1, 0)", x.done(1, 0), 1);
        due("done(1, 1)", x.done(1, 1), 0);
    }

    /** Each of the ten is as it was, when more than ten were known. */
    private static void eachIsAsItWas() {
        LaterJury x = Check.told("y16;s9 0 0 0 0;d0 0;d0 0;");
        for (int i = 0; i < 15; i++) {
            due("does()", x.does(i, i % 2), 1);
            due("takes()", x.takes(0), 0);
        }
        for (int i = 14; i >= 10; i--) {
            x.undo();
            due("done(0, 0)", x.done(0, 0), i);
            due("done(0, 1)", x.done(0, 1), i % 2);
            due("count(4)", x.count(4), 1);
            x.undo();
            due("count(4)", x.count(4), 0);
        }
        due("undo()", x.undo(), -2);
    }

    public static void main(String[] args) {
        does();
        orderOfDone();
        becomesWhatIsNotTold();
        takesAndDone();
        undo();
        tenAreKnown();
        eachIsAsItWas();
        Check.end();
    }
}
