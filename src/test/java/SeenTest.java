/** Promises 22 to 25: what was seen, which beginnings fit, another law. */
public final class SeenTest {
    private static void due(String call, long got, long want) {
        Check.due(call, got, want);
    }

    private static void saw() {
        LaterJury x = Check.told("y3;s9 0 0 0 0;s9 0 1 1 1;");
        due("saw(3, 0)", x.saw(3, 0), -1);
        due("saw(-1, 0)", x.saw(-1, 0), -1);
        due("saw(0, 2)", x.saw(0, 2), -1);
        due("saw(0, -1)", x.saw(0, -1), -1);
        due("forget() of none", x.forget(), 0);
        for (int i = 1; i <= 6; i++) {
            due("saw(2, 1)", x.saw(2, 1), i);
        }
        due("saw() a seventh", x.saw(2, 1), -3);
        due("saw(3, 1), being full", x.saw(3, 1), -1);
        due("count(7)", x.count(7), 6);
        due("forget()", x.forget(), 6);
        due("count(7)", x.count(7), 0);
        due("saw()", x.saw(0, 0), 1);
        due("saw() of a new object", new LaterJury().saw(0, 0), -1);
    }

    private static void fits() {
        // 0 becomes 1, 1 becomes 2, 2 stays
        LaterJury x = Check.told("y4;s9 0 1 1 1;s9 0 2 2 2;s9 0 2 2 2;d2 0;");
        due("fits(), nothing seen", x.fits(), 7);
        x.saw(2, 2);
        due("fits() by year 2", x.fits(), 7);
        x.saw(1, 2);
        due("fits() by year 1", x.fits(), 6);
        x.saw(0, 1);
        due("fits() by year 0", x.fits(), 2);
        x.saw(0, 2);
        due("fits() by what can't be", x.fits(), 0);
        x.forget();
        x.saw(3, 0);
        due("fits() ahead of a deed", x.fits(), 0);
        x.does(3, 0);
        due("fits() behind a deed", x.fits(), 7);
        due("fits() of a new object", new LaterJury().fits(), 0);
    }

    private static void fitsByLives() {
        // beginning 0 is a paradox; 1 and 2 stay
        LaterJury x = Check.told("y3;s9 0 0 1 2;s18 0 1 1 1;s0 0 2 2 2;t0 1 2;");
        due("fits() of a paradox", x.fits(), 6);
        // beginning 0 has a life behind guilty, one behind an acquittal
        LaterJury y = Check.told("y3;s9 0 0 1 2;s0 0 1 1 1;s18 0 2 2 2;t0 1 2;");
        y.saw(1, 2);
        due("fits() by one life of two", y.fits(), 5);
        y.saw(2, 1);
        due("fits() by no one life", y.fits(), 0);
    }

    private static void law() {
        // 2 years alive at the most
        LaterJury x = Check.told("y3;s9 0 0 1 2;s0 0 1 1 1;s18 0 2 2 2;t0 1 2;q2;");
        due("quorum(1)", x.quorum(1), 2);
        due("quorum(2)", x.quorum(2), 2);
        due("quorum(3)", x.quorum(3), 1);
        due("quorum(9)", x.quorum(9), 1);
        due("quorum(0)", x.quorum(0), -1);
        due("quorum(10)", x.quorum(10), -1);
        due("quorum(-1)", x.quorum(-1), -1);
        due("count(6)", x.count(6), 2);
        due("lives()", x.lives(), 2);
        due("quorum(9) of a new object", new LaterJury().quorum(9), 0);
        due("quorum(10) of a new object", new LaterJury().quorum(10), -1);
    }

    public static void main(String[] args) {
        saw();
        fits();
        fitsByLives();
        law();
        Check.end();
    }
}
