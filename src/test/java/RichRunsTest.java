import java.util.ArrayList;
import java.util.Collections;
import java.util.List;
import java.util.Map;
import java.util.Random;
import java.util.TreeMap;

/**
 * Runs against the oracle by texts without a fault that leave much to be found: leans near 0, wide juries, deeds.
 * RandomRunsTest seldom gets so far, so what was met is counted, and too little of it is a failure too.
 */
public final class RichRunsTest {
    private static final int RUNS = 400, CALLS = 512, ROUNDS = 3;
    private static final int[] YEARS = {3, 4, 5, 6, 7, 8, 9, 10, 12, 16};
    private static final int[] SPREADS = {1, 2, 3, 9};
    private static final int[] DEAD_IN_A_HUNDRED = {0, 0, 15, 40};

    private static final Map<String, Integer> MET = new TreeMap<>();

    private final Random random;
    private final String run;
    private final LaterJury x = new LaterJury();
    private final Oracle o = new Oracle();
    private int calls = 0;

    private RichRunsTest(int seed) {
        random = new Random(seed);
        run = "rich run " + seed + ", call ";
    }

    private int below(int size) {
        return random.nextInt(size);
    }

    private int oneOf(int[] row) {
        return row[below(row.length)];
    }

    private int same(String call, int got, int want) {
        calls++;
        Check.due(run + calls + ": " + call, got, want);
        return want;
    }

    private static void met(String what) {
        MET.merge(what, 1, Integer::sum);
    }

    private String text() {
        int years = oneOf(YEARS), states = 2 + below(5);
        int named = below(5) == 0 ? 6 : states;
        int spread = oneOf(SPREADS), dead = oneOf(DEAD_IN_A_HUNDRED);
        StringBuilder text = new StringBuilder().append("y").append(years).append(";");
        // verdicts that make whoever gives them: then there are many lives
        boolean mirror = below(4) == 0;
        for (int s = 0; s < states; s++) {
            int without = mirror || below(2) == 0 ? s : below(named);
            int lean = mirror ? (s % 2 == 0 ? 8 : 10) : 9 - spread + below(2 * spread + 1);
            text.append("s").append(lean).append(below(100) < dead ? " 1 " : " 0 ").append(without).append(" ")
                    .append(mirror ? 0 : below(named)).append(" ").append(mirror ? 1 : below(named)).append(";");
        }
        if (below(2) == 0) {
            text.append("b").append(below(named)).append(";");
        }
        if (below(5) < 2) {
            text.append("q").append(1 + below(6)).append(";");
        }
        for (int deeds = 1 + below(4); deeds > 0; deeds--) {
            text.append("d").append(below(named)).append(" ").append(below(named)).append(";");
        }
        return text.append(trials(years, mirror)).toString();
    }

    private String trials(int years, boolean soon) {
        List<Integer> some = some(years - 1, 1 + below(3));
        StringBuilder text = new StringBuilder();
        for (int year : some) {
            int first = year + 1 + (soon ? 0 : below(years - 1 - year));
            int last = soon ? first : below(2) == 0 ? years - 1 : first + below(years - first);
            text.append("t").append(year).append(" ").append(first).append(" ").append(last).append(";");
        }
        return text.toString();
    }

    /** So many of 0 .. size - 1, or all, rising. */
    private List<Integer> some(int size, int many) {
        List<Integer> all = new ArrayList<>();
        for (int i = 0; i < size; i++) {
            all.add(i);
        }
        Collections.shuffle(all, random);
        List<Integer> some = new ArrayList<>(all.subList(0, Math.min(size, many)));
        Collections.sort(some);
        return some;
    }

    private void askOfLives() {
        int lives = same("lives()", x.lives(), o.lives());
        met("lives " + Math.min(lives, 4));
        same("ring(0)", x.ring(0), o.ring(0));
        met("ring " + Math.min(same("ring(1)", x.ring(1), o.ring(1)), 3));
        for (int k = 1; k <= 9; k += 2) {
            same("quorum(" + k + ")", x.quorum(k), o.quorum(k));
        }
        for (int year : some(o.count(0), 4)) {
            same("who(" + year + ")", x.who(year), o.who(year));
        }
        for (int i = 0; i < lives; i++) {
            int year = below(o.count(0));
            same("self(" + i + ", " + year + ")", x.self(i, year), o.self(i, year));
        }
    }

    private void askOfTrial(int t) {
        same("sure(" + t + ")", x.sure(t), o.sure(t));
        same("innocent(" + t + ")", x.innocent(t), o.innocent(t));
        same("odds(" + t + ", 0)", x.odds(t, 0), o.odds(t, 0));
        same("odds(" + t + ", 1)", x.odds(t, 1), o.odds(t, 1));
        // the oracle tries each pair of deeds
        if (o.count(0) * o.count(3) <= 40 || below(8) == 0) {
            met("help " + same("help(" + t + ", 0)", x.help(t, 0), o.help(t, 0)));
            same("help(" + t + ", 1)", x.help(t, 1), o.help(t, 1));
            same("help(" + t + ", 2)", x.help(t, 2), o.help(t, 2));
        }
        for (int i = 0; i < Math.min(3, o.lives()); i++) {
            same("verdict(" + i + ", " + t + ")", x.verdict(i, t), o.verdict(i, t));
            for (int k = 1; k <= 4; k++) {
                int left = same("strikes(" + i + ", " + t + ", " + k + ")", x.strikes(i, t, k), o.strikes(i, t, k));
                met(left == LaterJury.NO ? "strikes refused" : "strikes");
            }
        }
    }

    /** What some life has, so that it fits, and at times one thing more that may not. */
    private void see() {
        same("forget()", x.forget(), o.forget());
        int lives = o.lives();
        for (int year : some(o.count(0), below(4))) {
            int s = lives == 0 ? below(o.count(1)) : o.self(below(lives), year);
            same("saw(" + year + ", " + s + ")", x.saw(year, s), o.saw(year, s));
        }
        met(same("fits()", x.fits(), o.fits()) == 0 ? "fits none" : "fits some");
    }

    private void change() {
        for (int deeds = 1 + below(4); deeds > 0; deeds--) {
            int year = below(o.count(0)), d = below(o.count(3));
            same("does(" + year + ", " + d + ")", x.does(year, d), o.does(year, d));
        }
        switch (below(5)) {
            case 0 -> same("takes(0)", x.takes(0), o.takes(0));
            case 1 -> same("undo()", x.undo(), o.undo());
            case 2 -> same("keep(1)", x.keep(1), o.keep(1));
            default -> same("back(1)", x.back(1), o.back(1));
        }
    }

    private void play() {
        String text = text();
        for (int i = 0; i < text.length(); i++) {
            same("type()", x.type(text.charAt(i)), o.type(text.charAt(i)));
        }
        Check.due(run + calls + ": it has no fault: " + text, same("court() of " + text, x.court(), o.court()) > 0 ? 1 : 0, 1);
        for (int round = 0; round < ROUNDS; round++) {
            askOfLives();
            for (int t = 0; t < o.count(2); t++) {
                askOfTrial(t);
            }
            see();
            change();
        }
        Check.due(run + calls + ": no more than may be asked", calls <= CALLS ? 1 : 0, 1);
    }

    private static void wasMet(String what, int least) {
        int times = MET.getOrDefault(what, 0);
        Check.due(what + " was met " + times + " times, " + least + " at least", times >= least ? 1 : 0, 1);
    }

    private static void enoughWasMet() {
        System.out.println(MET);
        wasMet("help 0", 100);
        wasMet("help 1", 100);
        wasMet("help 2", 30);
        wasMet("help -9", 100);
        wasMet("lives 0", 100);
        wasMet("lives 2", 30);
        wasMet("lives 3", 10);
        wasMet("lives 4", 50);
        wasMet("ring 2", 50);
        wasMet("ring 3", 10);
        wasMet("strikes", 1000);
        wasMet("fits none", 50);
        wasMet("fits some", 500);
    }

    public static void main(String[] args) {
        int runs = args.length > 0 ? Integer.parseInt(args[0]) : RUNS;
        int first = args.length > 1 ? Integer.parseInt(args[1]) : 1;
        for (int seed = first; seed < first + runs; seed++) {
            new RichRunsTest(seed).play();
        }
        if (runs >= RUNS) {
            enoughWasMet();
        }
        Check.end();
    }
}
