import java.util.Random;

/** Runs of calls drawn with a fixed seed, each answer against the oracle's. */
public final class RandomRunsTest {
    private static final int RUNS = 400, CALLS = 512;
    /** What change() asks at the most: an object is good for so many calls, and no more may be asked. */
    private static final int CALLS_OF_A_STEP = 14;
    private static final int[] FAR = {-1, Integer.MIN_VALUE, Integer.MAX_VALUE, 99, 255, 256, 1 << 30};

    private final Random random;
    private final String run;
    private final LaterJury x = new LaterJury();
    private final Oracle o = new Oracle();
    private int calls = 0;

    private RandomRunsTest(int seed) {
        random = new Random(seed);
        run = "run " + seed + ", call ";
    }

    private int below(int size) {
        return random.nextInt(size);
    }

    /** Mostly 0 .. size - 1, at times one too many, seldom far off. */
    private int about(int size) {
        int dice = below(40);
        if (dice == 0) {
            return FAR[below(FAR.length)];
        }
        return dice < 4 ? size : below(Math.max(1, size));
    }

    private void same(String call, long got, long want) {
        calls++;
        Check.due(run + calls + ": " + call, got, want);
    }

    private String number(int low, int high) {
        return (below(3) == 0 ? "  " : " ") + (low + below(high - low + 1));
    }

    private String text() {
        StringBuilder text = new StringBuilder();
        int years = 12;
        if (below(4) > 0) {
            years = 2 + below(15);
            text.append("y").append(years).append(";");
        }
        int states = below(12) == 0 ? 0 : 1 + below(6);
        int named = below(3) == 0 ? 5 : Math.max(0, states - 1);
        int mid = below(3) == 0 ? 9 : 4;
        for (int s = 0; s < states; s++) {
            text.append("s").append(number(9 - mid, 9 + mid)).append(below(5) == 0 ? " 1" : " 0");
            for (int i = 0; i < 3; i++) {
                text.append(number(0, named));
            }
            text.append(";");
        }
        if (below(2) == 0) {
            text.append("b").append(below(6)).append(";");
        }
        int from = 0;
        for (int trials = below(4); trials > 0 && from < years - 1; trials--) {
            int year = from + below(Math.max(1, (years - 1 - from) / trials));
            int first = year + 1 + below(Math.min(4, years - 1 - year));
            int last = first + below(years - first);
            text.append("t").append(year).append(" ").append(first).append(" ").append(last).append(";");
            from = year + 1;
        }
        if (below(2) == 0) {
            text.append("q").append(below(3) == 0 ? 1 + below(9) : 1 + below(3)).append(";");
        }
        for (int deeds = below(5); deeds > 0; deeds--) {
            text.append("d").append(number(0, named)).append(number(0, named)).append(";");
        }
        return below(4) == 0 ? spoilt(text) : text.toString();
    }

    private String spoilt(StringBuilder text) {
        String signs = "ysbtqdaz0123456789; ;; A\t#" + (char) 0 + (char) 255;
        for (int changes = 1 + below(3); changes > 0 && text.length() > 0; changes--) {
            int at = below(text.length());
            char sign = signs.charAt(below(signs.length()));
            switch (below(4)) {
                case 0 -> text.deleteCharAt(at);
                case 1 -> text.insert(at, sign);
                case 2 -> text.setCharAt(at, sign);
                default -> text.setLength(below(3) == 0 ? at : text.length());
            }
        }
        return text.toString();
    }

    private void tell(String text) {
        if (calls + text.length() + 2 > CALLS) {
            return;
        }
        if (below(8) > 0) {
            same("clear()", x.clear(), o.clear());
        }
        for (int i = 0; i < text.length(); i++) {
            same("type()", x.type(text.charAt(i)), o.type(text.charAt(i)));
        }
        same("court() of " + text, x.court(), o.court());
    }

    private void askOfLife() {
        int a = about(o.count(1)), t = about(o.count(2)), d = about(o.count(3)), w = about(5);
        switch (below(4)) {
            case 0 -> same("state(" + a + ", " + w + ")", x.state(a, w), o.state(a, w));
            case 1 -> same("trial(" + t + ", " + w + ")", x.trial(t, w), o.trial(t, w));
            case 2 -> same("deed(" + d + ", " + w + ")", x.deed(d, w), o.deed(d, w));
            default -> same("type(" + a + ")", x.type(a), o.type(a));
        }
    }

    private void change() {
        int year = about(o.count(0)), d = about(o.count(3)), i = about(o.count(4)), image = about(2);
        switch (below(9)) {
            case 0, 1, 2 -> same("does(" + year + ", " + d + ")", x.does(year, d), o.does(year, d));
            case 3, 4 -> same("takes(" + i + ")", x.takes(i), o.takes(i));
            case 5, 6 -> same("undo()", x.undo(), o.undo());
            case 7 -> same("keep(" + image + ")", x.keep(image), o.keep(image));
            default -> same("back(" + image + ")", x.back(image), o.back(image));
        }
        for (int k = 0; k < o.count(4); k++) {
            same("done(" + k + ", 0)", x.done(k, 0), o.done(k, 0));
            same("done(" + k + ", 1)", x.done(k, 1), o.done(k, 1));
        }
        same("done(" + i + ", " + d + ")", x.done(i, d), o.done(i, d));
    }

    private void askOfLives() {
        int i = about(o.lives()), t = about(o.count(2)), year = about(o.count(0)), w = about(2);
        switch (below(6)) {
            case 0 -> same("lives()", x.lives(), o.lives());
            case 1 -> same("verdict(" + i + ", " + t + ")", x.verdict(i, t), o.verdict(i, t));
            case 2 -> same("self(" + i + ", " + year + ")", x.self(i, year), o.self(i, year));
            case 3 -> same("sure(" + t + ")", x.sure(t), o.sure(t));
            case 4 -> same("who(" + year + ")", x.who(year), o.who(year));
            default -> same("ring(" + w + ")", x.ring(w), o.ring(w));
        }
    }

    private void askOfHelp() {
        int i = about(o.lives()), t = about(o.count(2)), k = below(11), w = about(2), w3 = about(3);
        switch (below(5)) {
            case 0 -> same("strikes(" + i + ", " + t + ", " + k + ")", x.strikes(i, t, k), o.strikes(i, t, k));
            case 1 -> same("innocent(" + t + ")", x.innocent(t), o.innocent(t));
            case 2 -> same("odds(" + t + ", " + w + ")", x.odds(t, w), o.odds(t, w));
            case 3 -> same("quorum(" + k + ")", x.quorum(k), o.quorum(k));
            default -> {
                // the oracle's help is slow
                if (below(2) == 0) {
                    same("help(" + t + ", " + w3 + ")", x.help(t, w3), o.help(t, w3));
                }
            }
        }
    }

    private void askOfRest() {
        int year = about(o.count(0)), s = about(o.count(1)), kind = about(6), what = about(10);
        switch (below(7)) {
            case 0, 1 -> same("saw(" + year + ", " + s + ")", x.saw(year, s), o.saw(year, s));
            case 2 -> {
                if (below(3) == 0) {
                    same("forget()", x.forget(), o.forget());
                }
            }
            case 3 -> same("fits()", x.fits(), o.fits());
            case 4 -> same("mark(" + kind + ", " + s + ")", x.mark(kind, s), o.mark(kind, s));
            case 5 -> same("count(" + what + ")", x.count(what), o.count(what));
            default -> same("trace()", x.trace(), o.trace());
        }
    }

    private void play() {
        tell(text());
        while (calls + CALLS_OF_A_STEP <= CALLS) {
            switch (below(60)) {
                case 0 -> tell(text());
                case 1, 2, 3 -> askOfLife();
                default -> {
                    switch (below(4)) {
                        case 0 -> change();
                        case 1 -> askOfLives();
                        case 2 -> askOfHelp();
                        default -> askOfRest();
                    }
                }
            }
        }
    }

    public static void main(String[] args) {
        int runs = args.length > 0 ? Integer.parseInt(args[0]) : RUNS;
        int first = args.length > 1 ? Integer.parseInt(args[1]) : 1;
        for (int seed = first; seed < first + runs; seed++) {
            new RandomRunsTest(seed).play();
        }
        Check.end();
    }
}
