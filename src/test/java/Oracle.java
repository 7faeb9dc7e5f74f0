import java.util.ArrayList;
import java.util.Arrays;
import java.util.List;

/**
 * The document once more, in the slowest and plainest way, and by other ways than the class:
 * a text is cut into tokens first, strikes are played out, help tries every pair of deeds in every order.
 */
final class Oracle {
    static final int BAD = -1, STATE = -2, FULL = -3, NONE = -9, NO = -1000000;

    private record Token(char type, String word, int place) {
    }

    private record Deed(int year, int kind) {
    }

    private record Life(int[] verdicts, int[] selves) {
    }

    private record Image(List<Deed> done, List<List<Deed>> past) {
    }

    private String text = "";
    private int years = 12, begin = 0, quorum = 1;
    private List<int[]> states = new ArrayList<>(), trials = new ArrayList<>(), deeds = new ArrayList<>();
    private List<Deed> done = new ArrayList<>();
    private List<List<Deed>> past = new ArrayList<>();
    private final Image[] images = new Image[2];
    private final List<int[]> seen = new ArrayList<>();
    private long trace = 0;

    private static boolean in(int x, int size) {
        return 0 <= x && x < size;
    }

    int type(int c) {
        if (!in(c, 256)) return BAD;
        if (text.length() == 200) return FULL;
        text += (char) c;
        return text.length();
    }

    int clear() {
        int had = text.length();
        text = "";
        return had;
    }

    private static List<Token> cut(String text) {
        List<Token> all = new ArrayList<>();
        int at = 0;
        while (at < text.length()) {
            int from = at;
            String rest = text.substring(at);
            if (rest.charAt(0) == ' ') {
                at++;
                continue;
            }
            if (rest.matches("(?s)[a-z].*")) {
                while (at < text.length() && "abcdefghijklmnopqrstuvwxyz".indexOf(text.charAt(at)) >= 0) at++;
                all.add(new Token('w', text.substring(from, at), from));
            } else if (rest.matches("(?s)[0-9].*")) {
                while (at < text.length() && "0123456789".indexOf(text.charAt(at)) >= 0) at++;
                String word = text.substring(from, at);
                all.add(new Token(word.matches("0|[1-9][0-9]?") ? 'n' : '?', word, from));
            } else {
                at++;
                all.add(new Token(rest.charAt(0) == ';' ? ';' : '?', rest.substring(0, 1), from));
            }
        }
        all.add(new Token('.', "", text.length()));
        return all;
    }

    int court() {
        List<Token> tokens = cut(text);
        Oracle next = new Oracle();
        String oneTime = "";
        int at = 0, items = 0;
        while (tokens.get(at).type() != '.') {
            Token head = tokens.get(at);
            int fault = -10 - head.place();
            int size = switch (head.type() == 'w' ? head.word() : "") {
                case "y", "b", "q" -> oneTime.contains(head.word()) ? 0 : 1;
                case "s" -> next.states.size() == 6 ? 0 : 5;
                case "t" -> next.trials.size() == 3 ? 0 : 3;
                case "d" -> next.deeds.size() == 4 ? 0 : 2;
                default -> 0;
            };
            if (size == 0 || head.word().equals("y") && !next.trials.isEmpty()) return fault;
            if (size == 1) oneTime += head.word();
            int[] numbers = new int[size];
            for (int i = 0; i < size; i++) {
                Token token = tokens.get(++at);
                if (token.type() != 'n') return -10 - token.place();
                numbers[i] = Integer.parseInt(token.word());
                if (!next.mayBe(head.word().charAt(0), i, numbers)) return -10 - token.place();
            }
            Token stop = tokens.get(++at);
            if (stop.type() != ';') return -10 - stop.place();
            at++;
            items++;
            switch (head.word()) {
                case "y" -> next.years = numbers[0];
                case "b" -> next.begin = numbers[0];
                case "q" -> next.quorum = numbers[0];
                case "s" -> next.states.add(numbers);
                case "t" -> next.trials.add(numbers);
                default -> next.deeds.add(numbers);
            }
        }
        takeOver(next);
        return items;
    }

    private boolean mayBe(char item, int i, int[] n) {
        return switch (item) {
            case 'y' -> 2 <= n[0] && n[0] <= 16;
            case 'q' -> 1 <= n[0] && n[0] <= 9;
            case 's' -> n[i] <= new int[] {18, 1, 5, 5, 5}[i];
            case 't' -> switch (i) {
                case 0 -> n[0] + 1 < years && (trials.isEmpty() || n[0] > trials.get(trials.size() - 1)[0]);
                case 1 -> n[0] < n[1] && n[1] < years;
                default -> n[1] <= n[2] && n[2] < years;
            };
            default -> n[i] <= 5;
        };
    }

    private void takeOver(Oracle next) {
        text = "";
        years = next.years;
        begin = next.begin < next.states.size() ? next.begin : 0;
        quorum = next.quorum;
        states = next.states;
        trials = next.trials;
        deeds = next.deeds;
        done = new ArrayList<>();
        past = new ArrayList<>();
        seen.clear();
        Arrays.fill(images, null);
    }

    int state(int s, int what) {
        if (!in(s, states.size()) || !in(what, 5)) return NO;
        return states.get(s)[what] - (what == 0 ? 9 : 0);
    }

    int trial(int t, int what) {
        return in(t, trials.size()) && in(what, 3) ? trials.get(t)[what] : BAD;
    }

    int deed(int d, int what) {
        return in(d, deeds.size()) && in(what, 2) ? deeds.get(d)[what] : BAD;
    }

    private void remember() {
        past.add(new ArrayList<>(done));
        if (past.size() > 10) past.remove(0);
    }

    int does(int year, int d) {
        if (!in(year, years) || !in(d, deeds.size())) return BAD;
        if (done.size() == 6) return FULL;
        remember();
        done.add(new Deed(year, d));
        return done.size();
    }

    int takes(int i) {
        if (!in(i, done.size())) return BAD;
        remember();
        done.remove(i);
        return done.size();
    }

    int done(int i, int what) {
        if (!in(i, done.size()) || !in(what, 2)) return BAD;
        return what == 0 ? done.get(i).year() : done.get(i).kind();
    }

    int undo() {
        if (past.isEmpty()) return STATE;
        done = new ArrayList<>(past.remove(past.size() - 1));
        return past.size();
    }

    private Life live(int first, int[] verdicts, List<Deed> deedsDone) {
        int[] selves = new int[years];
        for (int y = 0; y < years; y++) {
            int now = first;
            if (y > 0) {
                int column = 2;
                for (int t = 0; t < trials.size(); t++) {
                    if (trials.get(t)[0] == y - 1) column = 2 + verdicts[t];
                }
                int next = states.get(selves[y - 1])[column];
                now = next < states.size() ? next : selves[y - 1];
            }
            for (Deed deed : deedsDone) {
                int[] kind = deeds.get(deed.kind());
                if (deed.year() == y && kind[0] == now && kind[1] < states.size()) now = kind[1];
            }
            selves[y] = now;
        }
        return new Life(verdicts, selves);
    }

    private List<Integer> jurors(Life life, int t) {
        List<Integer> leans = new ArrayList<>();
        for (int y = trials.get(t)[1]; y <= trials.get(t)[2]; y++) {
            int[] state = states.get(life.selves()[y]);
            if (state[1] == 0) leans.add(state[0] - 9);
        }
        return leans;
    }

    private int[] words(Life life, int least) {
        int[] words = new int[trials.size()];
        for (int t = 0; t < words.length; t++) {
            List<Integer> leans = jurors(life, t);
            int sum = leans.stream().mapToInt(Integer::intValue).sum();
            words[t] = leans.size() < least ? 0 : sum >= 0 ? 2 : 1;
        }
        return words;
    }

    private List<int[]> allVerdicts(int size) {
        List<int[]> all = new ArrayList<>();
        if (size == 0) {
            all.add(new int[0]);
            return all;
        }
        for (int[] ahead : allVerdicts(size - 1)) {
            for (int v = 0; v < 3; v++) {
                int[] row = Arrays.copyOf(ahead, size);
                row[size - 1] = v;
                all.add(row);
            }
        }
        return all;
    }

    private List<Life> livesOf(int first, int least, List<Deed> deedsDone) {
        List<Life> all = new ArrayList<>();
        if (states.isEmpty()) return all;
        for (int[] verdicts : allVerdicts(trials.size())) {
            Life life = live(first, verdicts, deedsDone);
            if (Arrays.equals(words(life, least), verdicts)) all.add(life);
        }
        return all;
    }

    private List<Life> livesNow() {
        return livesOf(begin, quorum, done);
    }

    int lives() {
        return livesNow().size();
    }

    int verdict(int i, int t) {
        List<Life> all = livesNow();
        return in(t, trials.size()) && in(i, all.size()) ? all.get(i).verdicts()[t] : BAD;
    }

    int self(int i, int year) {
        List<Life> all = livesNow();
        return in(year, years) && in(i, all.size()) ? all.get(i).selves()[year] : BAD;
    }

    private static int sureIn(List<Life> all, int t) {
        int[] found = all.stream().mapToInt(l -> l.verdicts()[t]).distinct().toArray();
        return found.length == 0 ? NONE : found.length == 1 ? found[0] : -5;
    }

    int sure(int t) {
        return in(t, trials.size()) ? sureIn(livesNow(), t) : BAD;
    }

    int who(int year) {
        if (!in(year, years)) return BAD;
        return livesNow().stream().mapToInt(l -> 1 << l.selves()[year]).reduce(0, (a, b) -> a | b);
    }

    int ring(int what) {
        if (!in(what, 2)) return BAD;
        if (states.isEmpty()) return 0;
        List<String> met = new ArrayList<>();
        int[] verdicts = new int[trials.size()];
        while (!met.contains(Arrays.toString(verdicts))) {
            met.add(Arrays.toString(verdicts));
            verdicts = words(live(begin, verdicts, done), quorum);
        }
        int behind = met.indexOf(Arrays.toString(verdicts));
        return what == 0 ? behind : met.size() - behind;
    }

    int help(int t, int what) {
        if (!in(t, trials.size()) || !in(what, 3)) return BAD;
        List<Deed> all = new ArrayList<>();
        for (int y = 0; y < years; y++) for (int d = 0; d < deeds.size(); d++) all.add(new Deed(y, d));
        List<List<Deed>> rows = new ArrayList<>();
        rows.add(List.of());
        for (Deed a : all) rows.add(List.of(a));
        for (Deed a : all) for (Deed b : all) rows.add(List.of(a, b));
        for (List<Deed> row : rows) {
            List<Deed> with = new ArrayList<>(done);
            with.addAll(row);
            if (sureIn(livesOf(begin, quorum, with), t) == 2) {
                if (what == 0) return row.size();
                return what <= row.size() ? 10 * row.get(what - 1).year() + row.get(what - 1).kind() : -5;
            }
        }
        return NONE;
    }

    /** All play: each side tries every juror. */
    private static int play(List<Integer> leans, int k, boolean accuser) {
        if (leans.size() == k) return leans.stream().mapToInt(Integer::intValue).sum();
        int best = accuser ? Integer.MAX_VALUE : Integer.MIN_VALUE;
        List<Integer> tried = new ArrayList<>();
        for (int i = 0; i < leans.size(); i++) {
            if (tried.contains(leans.get(i))) continue;
            tried.add(leans.get(i));
            List<Integer> rest = new ArrayList<>(leans);
            rest.remove(i);
            int value = play(rest, k, !accuser);
            best = accuser ? Math.min(best, value) : Math.max(best, value);
        }
        return best;
    }

    int strikes(int i, int t, int k) {
        List<Life> all = livesNow();
        if (!in(t, trials.size()) || k < 1 || k > 9 || !in(i, all.size())) return NO;
        List<Integer> leans = jurors(all.get(i), t);
        leans.sort(null);
        return leans.size() < k ? NO : play(leans, k, true);
    }

    int innocent(int t) {
        if (!in(t, trials.size())) return BAD;
        int bits = 0;
        for (int s = 0; s < states.size(); s++) {
            if (sureIn(livesOf(s, quorum, done), t) == 2) bits |= 1 << s;
        }
        return bits;
    }

    int odds(int t, int what) {
        if (!in(t, trials.size()) || !in(what, 2)) return BAD;
        if (states.isEmpty()) return STATE;
        int upper = Integer.bitCount(innocent(t)), lower = states.size();
        for (int d = lower; d > 1; d--) {
            if (upper % d == 0 && lower % d == 0) {
                upper /= d;
                lower /= d;
            }
        }
        return what == 0 ? upper : lower;
    }

    int saw(int year, int s) {
        if (!in(year, years) || !in(s, states.size())) return BAD;
        if (seen.size() == 6) return FULL;
        seen.add(new int[] {year, s});
        return seen.size();
    }

    int forget() {
        int had = seen.size();
        seen.clear();
        return had;
    }

    int fits() {
        int bits = 0;
        for (int s = 0; s < states.size(); s++) {
            boolean fits = livesOf(s, quorum, done).stream()
                    .anyMatch(l -> seen.stream().allMatch(w -> l.selves()[w[0]] == w[1]));
            if (fits) bits |= 1 << s;
        }
        return bits;
    }

    int quorum(int k) {
        return k < 1 || k > 9 ? BAD : livesOf(begin, k, done).size();
    }

    int mark(int kind, int s) {
        if (!in(kind, 6) || !in(s, states.size())) return NO;
        int lean = state(s, 0), child = lean + state(s, 2), elder = lean - done.size();
        trace += new long[] {1, 11, 101, 1011, 10101, 100001}[kind];
        return new int[] {lean, child, elder, 2 * child, elder + trials.size(), lean + 9 * state(s, 1)}[kind];
    }

    int keep(int image) {
        if (!in(image, 2)) return BAD;
        images[image] = new Image(new ArrayList<>(done), new ArrayList<>(past));
        return done.size();
    }

    int back(int image) {
        if (!in(image, 2)) return BAD;
        if (images[image] == null) return STATE;
        done = new ArrayList<>(images[image].done());
        past = new ArrayList<>(images[image].past());
        return done.size();
    }

    int count(int what) {
        return switch (what) {
            case 0 -> years;
            case 1 -> states.size();
            case 2 -> trials.size();
            case 3 -> deeds.size();
            case 4 -> done.size();
            case 5 -> begin;
            case 6 -> quorum;
            case 7 -> seen.size();
            case 8 -> past.size();
            case 9 -> text.length();
            default -> BAD;
        };
    }

    long trace() {
        return trace;
    }
}
