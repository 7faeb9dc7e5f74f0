/**
 * Two objects that should be alike in all that can be asked. Some 200 calls of each are used up
 * (an object is good for 512), and both are others then: what may be undone, the images and the text are looked at by using them.
 */
final class Twin {
    private final String behind;
    private final LaterJury x;
    private final LaterJury y;

    private Twin(String behind, LaterJury x, LaterJury y) {
        this.behind = behind;
        this.x = x;
        this.y = y;
    }

    static void alike(String behind, LaterJury x, LaterJury y) {
        Twin twin = new Twin(behind + " changed something: ", x, y);
        twin.whatIsTold();
        twin.whatIsDone();
        twin.lives();
        twin.verdicts();
        twin.past();
        twin.images();
        twin.text();
    }

    private void same(String call, long got, long want) {
        Check.due(behind + call, got, want);
    }

    private void counts() {
        for (int what = 0; what < 10; what++) {
            same("count(" + what + ")", x.count(what), y.count(what));
        }
    }

    private void whatIsTold() {
        counts();
        for (int i = 0; i < 6; i++) {
            for (int what = 0; what < 5; what++) {
                same("state(" + i + ", " + what + ")", x.state(i, what), y.state(i, what));
            }
        }
        for (int i = 0; i < 4; i++) {
            for (int what = 0; what < 3; what++) {
                same("trial(" + i + ", " + what + ")", x.trial(i, what), y.trial(i, what));
                same("deed(" + i + ", " + what + ")", x.deed(i, what), y.deed(i, what));
            }
        }
        same("trace()", x.trace(), y.trace());
    }

    private void whatIsDone() {
        int size = y.count(4);
        same("count(4)", x.count(4), size);
        for (int i = 0; i < size; i++) {
            same("done(" + i + ", 0)", x.done(i, 0), y.done(i, 0));
            same("done(" + i + ", 1)", x.done(i, 1), y.done(i, 1));
        }
    }

    private void lives() {
        int size = Math.min(3, y.lives());
        same("lives()", x.lives(), y.lives());
        for (int i = 0; i < size; i++) {
            for (int year = 0; year < y.count(0); year++) {
                same("self(" + i + ", " + year + ")", x.self(i, year), y.self(i, year));
            }
        }
        same("ring(0)", x.ring(0), y.ring(0));
        same("ring(1)", x.ring(1), y.ring(1));
        same("fits()", x.fits(), y.fits());
        same("quorum(2)", x.quorum(2), y.quorum(2));
    }

    private void verdicts() {
        for (int t = 0; t < y.count(2); t++) {
            same("verdict(0, " + t + ")", x.verdict(0, t), y.verdict(0, t));
            same("sure(" + t + ")", x.sure(t), y.sure(t));
            same("innocent(" + t + ")", x.innocent(t), y.innocent(t));
            same("help(" + t + ", 1)", x.help(t, 1), y.help(t, 1));
            same("help(" + t + ", 2)", x.help(t, 2), y.help(t, 2));
        }
    }

    private void past() {
        int known = y.count(8);
        for (int i = 0; i < known; i++) {
            same("undo()", x.undo(), y.undo());
            whatIsDone();
        }
        same("undo() of none", x.undo(), y.undo());
    }

    private void images() {
        for (int image = 0; image < 2; image++) {
            same("back(" + image + ")", x.back(image), y.back(image));
            whatIsDone();
            same("undo()", x.undo(), y.undo());
            whatIsDone();
        }
    }

    private void text() {
        same("court()", x.court(), y.court());
        counts();
    }
}
