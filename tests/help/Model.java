import java.math.BigInteger;
import java.util.ArrayDeque;
import java.util.ArrayList;
import java.util.Arrays;
import java.util.Deque;
import java.util.HashMap;
import java.util.HashSet;
import java.util.List;
import java.util.Map;
import java.util.Set;

/**
 * The document once more, written as plainly as the Java library allows and in other ways than the class:
 * TEXTS are checked by a pushdown table, GAMES searched, KIN told since a STEP set back as they were told.
 */
final class Model {
    static final class Kin {
        int temper, kept, toldKept;
        boolean strapped;

        Kin copy() {
            Kin k = new Kin();
            k.temper = temper;
            k.kept = kept;
            k.toldKept = toldKept;
            k.strapped = strapped;
            return k;
        }
    }

    static final class Line {
        int dinner, who, through, stuck;
    }

    static final class Table {
        List<Kin> kin = new ArrayList<>();
        List<Integer> seats = new ArrayList<>();
        List<Line> book = new ArrayList<>();
        int dinner, x = 421;

        Table copy() {
            Table t = new Table();
            for (Kin k : kin) {
                t.kin.add(k.copy());
            }
            t.seats.addAll(seats);
            t.book.addAll(book);
            t.dinner = dinner;
            t.x = x;
            return t;
        }

        int across(int who) {
            int n = seats.size();
            return seats.get((seats.indexOf(who) + n / 2) % n);
        }
    }

    static final class State {
        Table table = new Table();
        Deque<Table> steps = new ArrayDeque<>();
        List<ModelText> texts = new ArrayList<>();
        int ruling = -1;
        int[][] spite = new int[6][6];
        int[] hedge = new int[36];
        List<int[]> guesses = new ArrayList<>();
        int[][][] gain = new int[2][2][2];
        List<int[]> sayings = new ArrayList<>();
        List<int[]> told = new ArrayList<>();

        State copy() {
            State s = new State();
            s.table = table.copy();
            for (Table t : steps) {
                s.steps.addLast(t.copy());
            }
            s.texts.addAll(texts);
            s.ruling = ruling;
            for (int i = 0; i < 6; i++) {
                s.spite[i] = spite[i].clone();
            }
            s.hedge = hedge.clone();
            s.guesses.addAll(guesses);
            for (int i = 0; i < 4; i++) {
                s.gain[i / 2][i % 2] = gain[i / 2][i % 2].clone();
            }
            s.sayings.addAll(sayings);
            s.told.addAll(told);
            return s;
        }
    }

    State s = new State();
    State image = new State();
    String tape = "";
    int fault = -1, faultAt = -1;

    int kin(int temper, int kept) {
        if (temper < 0 || temper > 9 || kept < 0 || kept > 99 || s.table.kin.size() == 6) {
            return -1;
        }
        Kin k = new Kin();
        k.temper = temper;
        k.kept = kept;
        k.toldKept = kept;
        s.table.kin.add(k);
        s.table.seats.add(s.table.kin.size() - 1);
        return s.table.kin.size() - 1;
    }

    int feed(int a, int b, int c, int d, int e) {
        if (tape.length() + 20 > 300) {
            return -1;
        }
        for (int word : new int[] {a, b, c, d, e}) {
            tape += "" + (char) (word >>> 24) + (char) (word >>> 16 & 255) + (char) (word >>> 8 & 255) + (char) (word & 255);
        }
        return tape.length();
    }

    int end(int n) {
        if (n < 0 || n > tape.length()) {
            return -1;
        }
        tape = tape.substring(0, n);
        return n;
    }

    int text() {
        if (s.texts.size() == 4) {
            return -1;
        }
        ModelText t = new ModelText(tape);
        tape = "";
        fault = t.fault;
        faultAt = t.fault == 0 ? -1 : t.faultAt;
        if (fault != 0) {
            return -1;
        }
        s.texts.add(t);
        return s.texts.size() - 1;
    }

    int fault(int what) {
        return what == 0 ? fault : what == 1 ? faultAt : -1;
    }

    boolean by(int text) {
        if (text < -1 || text >= s.texts.size()) {
            return false;
        }
        s.ruling = text;
        return true;
    }

    private boolean is(int kin, boolean unused) {
        return kin >= 0 && kin < s.table.kin.size();
    }

    private ModelText law() {
        return s.ruling < 0 ? null : s.texts.get(s.ruling);
    }

    private void step() {
        s.steps.addLast(s.table.copy());
        if (s.steps.size() > 30) {
            s.steps.removeFirst();
        }
    }

    private static void more(Kin k) {
        if (k.kept < 99) {
            k.kept++;
        }
    }

    int reach(int kin) {
        if (!is(kin, true) || s.table.kin.get(kin).strapped) {
            return -1;
        }
        step();
        more(s.table.kin.get(kin));
        return s.table.kin.get(kin).kept;
    }

    boolean down(int kin, int n) {
        if (!is(kin, true) || n < 1 || n > 99 || s.table.kin.get(kin).kept < n) {
            return false;
        }
        step();
        s.table.kin.get(kin).kept -= n;
        return true;
    }

    boolean strap(int kin) {
        if (!is(kin, true)) {
            return false;
        }
        step();
        s.table.kin.get(kin).strapped = !s.table.kin.get(kin).strapped;
        return true;
    }

    boolean swap(int a, int b) {
        if (!is(a, true) || !is(b, true) || a == b) {
            return false;
        }
        step();
        swapIn(s.table.seats, a, b);
        return true;
    }

    private static void swapIn(List<Integer> seats, int a, int b) {
        int i = seats.indexOf(a);
        int j = seats.indexOf(b);
        seats.set(i, b);
        seats.set(j, a);
    }

    private static int draw(Table t) {
        int x = t.x;
        t.x = (x * 673 + 547) % 30971;
        return x;
    }

    static int reaches(ModelText law, Table t, int who) {
        return law == null || law.reaches == null ? t.kin.get(who).temper : (int) Math.min(10, Math.max(0, law.reaches.value(t, who)));
    }

    static int bears(ModelText law, Table t, int who) {
        return law == null || law.bears == null ? 5 : (int) Math.min(99, Math.max(0, law.bears.value(t, who)));
    }

    private static int pass(Table t, ModelText law) {
        for (int who : t.seats) {
            if (!t.kin.get(who).strapped) {
                int drawn = draw(t) % 10;
                if (drawn < reaches(law, t, who)) {
                    more(t.kin.get(who));
                }
            }
        }
        int loosed = 0;
        int n = t.seats.size();
        for (int seat = 0; seat < n; seat++) {
            Kin k = t.kin.get(t.seats.get(seat));
            if (k.strapped || k.kept <= bears(law, t, t.seats.get(seat))) {
                continue;
            }
            loosed++;
            k.kept /= 2;
            Line line = new Line();
            line.dinner = t.dinner;
            line.who = t.seats.get(seat);
            line.stuck = -1;
            int there = (seat + n / 2) % n;
            while (there != seat) {
                Kin other = t.kin.get(t.seats.get(there));
                if (other.kept > 0) {
                    line.stuck = t.seats.get(there);
                    more(other);
                    break;
                }
                line.through += 1 << t.seats.get(there);
                there = (there + 1) % n;
            }
            t.book.add(line);
            if (t.book.size() > 25) {
                t.book.remove(0);
            }
        }
        t.dinner++;
        return loosed;
    }

    int dinner(int n) {
        if (n < 1 || n > 60 || s.table.dinner + n > 9999) {
            return -1;
        }
        int loosed = 0;
        for (int i = 0; i < n; i++) {
            step();
            loosed += pass(s.table, law());
        }
        return loosed;
    }

    int played(int text) {
        if (text < 0 || text >= s.texts.size()) {
            return -2;
        }
        List<String[]> clauses = s.texts.get(text).clauses;
        for (int i = 0; i < clauses.size(); i++) {
            if (!play(clauses.get(i))) {
                return i;
            }
        }
        return -1;
    }

    private boolean play(String[] c) {
        switch (c[0]) {
            case "kin": return kin(Integer.parseInt(c[1]), Integer.parseInt(c[3])) >= 0;
            case "reach": return reach(Integer.parseInt(c[1])) >= 0;
            case "down": return down(Integer.parseInt(c[1]), Integer.parseInt(c[3]));
            case "strap": return strap(Integer.parseInt(c[1]));
            case "swap": return swap(Integer.parseInt(c[1]), Integer.parseInt(c[3]));
            case "dinner":
                for (int i = 0; i < Integer.parseInt(c[1]); i++) {
                    if (dinner(1) < 0) {
                        return false;
                    }
                }
                return true;
            default: return true;
        }
    }

    int years(int seed, int n) {
        if (seed < 0 || seed > 9999 || n < 1 || n > 40) {
            return -1;
        }
        step();
        Deque<Table> before = s.steps;
        s.steps = new ArrayDeque<>();
        s.table.x = seed * 2 + 421;
        for (int i = 0; i < n; i++) {
            int x = draw(s.table);
            int many = s.table.kin.size();
            int who = many == 0 ? -1 : x / 6 % many;
            if (x % 6 > 3) {
                dinner(1);
            } else if (many > 0) {
                switch (x % 6) {
                    case 0: reach(who); break;
                    case 1: down(who, 1 + x % 3); break;
                    case 2: if (x % 4 == 2) swap(who, (who + 1) % many); break;
                    default: if (x % 4 == 1) strap(who); break;
                }
            }
        }
        s.steps = before;
        return s.table.dinner;
    }

    int undo() {
        if (s.steps.isEmpty()) {
            return -1;
        }
        Table was = s.steps.removeLast();
        for (int i = was.kin.size(); i < s.table.kin.size(); i++) {
            Kin k = s.table.kin.get(i).copy();
            k.kept = k.toldKept;
            k.strapped = false;
            was.kin.add(k);
            was.seats.add(i);
        }
        s.table = was;
        return s.steps.size();
    }

    int of(int kin, int what) {
        if (!is(kin, true)) {
            return -1;
        }
        Kin k = s.table.kin.get(kin);
        switch (what) {
            case 0: return k.temper;
            case 1: return k.kept;
            case 2: return s.table.seats.indexOf(kin);
            case 3: return k.strapped ? 1 : 0;
            case 4: return reaches(law(), s.table, kin);
            case 5: return bears(law(), s.table, kin);
            case 6: return s.table.across(kin);
            default: return -1;
        }
    }

    int at(int seat) {
        return is(seat, true) ? s.table.seats.get(seat) : -1;
    }

    int is(int what) {
        switch (what) {
            case 0: return s.table.dinner;
            case 1: return s.table.x;
            case 2: return s.table.kin.stream().mapToInt(k -> k.kept).sum();
            case 3:
                int bits = 0;
                for (int i = 0; i < s.table.kin.size(); i++) {
                    bits += s.table.kin.get(i).strapped ? 1 << i : 0;
                }
                return bits;
            default: return -2;
        }
    }

    int book(int i, int what) {
        if (i == -1) {
            return s.table.book.size();
        }
        if (i < 0 || i >= s.table.book.size() || what < 0 || what > 3) {
            return -2;
        }
        Line line = s.table.book.get(i);
        return new int[] {line.dinner, line.who, line.through, line.stuck}[what];
    }

    int foretold(int n, int kin) {
        if (n < 1 || n > 60 || !is(kin, true)) {
            return -1;
        }
        Table t = s.table.copy();
        for (int i = 0; i < n; i++) {
            if (t.dinner < 9999) {
                pass(t, law());
            }
        }
        return t.kin.get(kin).kept;
    }

    boolean spite(int a, int b, int spite) {
        if (!is(a, true) || !is(b, true) || a == b || spite < 0 || spite > 99) {
            return false;
        }
        s.spite[a][b] = spite;
        s.spite[b][a] = spite;
        return true;
    }

    private int spiteOf(List<Integer> row) {
        Set<Set<Integer>> pairs = new HashSet<>();
        for (int i = 0; i < row.size(); i++) {
            int other = row.get((i + 1) % row.size());
            if (other != row.get(i)) {
                pairs.add(Set.of(row.get(i), other));
            }
        }
        int sum = 0;
        for (Set<Integer> pair : pairs) {
            List<Integer> two = new ArrayList<>(pair);
            sum += s.spite[two.get(0)][two.get(1)];
        }
        return sum;
    }

    private void rows(List<Integer> begun, int n, List<List<Integer>> all) {
        if (begun.size() == n) {
            all.add(new ArrayList<>(begun));
            return;
        }
        for (int i = begun.isEmpty() ? 0 : 1; i < (begun.isEmpty() ? 1 : n); i++) {
            if (!begun.contains(i)) {
                begun.add(i);
                rows(begun, n, all);
                begun.remove(begun.size() - 1);
            }
        }
    }

    private List<List<Integer>> allRows() {
        List<List<Integer>> all = new ArrayList<>();
        rows(new ArrayList<>(), s.table.kin.size(), all);
        return all;
    }

    int round(boolean best) {
        return best ? allRows().stream().mapToInt(this::spiteOf).min().getAsInt() : allRows().stream().mapToInt(this::spiteOf).max().getAsInt();
    }

    int seating(int seat) {
        int best = round(true);
        List<Integer> row = allRows().stream().filter(r -> spiteOf(r) == best).findFirst().get();
        return seat >= 0 && seat < row.size() ? row.get(seat) : -1;
    }

    int seatings() {
        int best = round(true);
        return (int) allRows().stream().filter(r -> spiteOf(r) == best).count();
    }

    int spiteNow() {
        return spiteOf(s.table.seats);
    }

    int mend(int what) {
        int[] best = {-1, -1, -1};
        for (int a = 0; a < s.table.kin.size(); a++) {
            for (int b = a + 1; b < s.table.kin.size(); b++) {
                List<Integer> row = new ArrayList<>(s.table.seats);
                swapIn(row, a, b);
                int then = spiteOf(row);
                if (then < spiteNow() && (best[0] < 0 || then < best[2])) {
                    best = new int[] {a, b, then};
                }
            }
        }
        return what >= 0 && what <= 2 ? best[what] : -1;
    }

    boolean hedge(int cell, int sort) {
        if (cell < 0 || cell > 35 || sort < 0 || sort > 3) {
            return false;
        }
        s.hedge[cell] = sort;
        return true;
    }

    private int[] fly(int cell, int way) {
        String turned = "1032";
        String back = "3210";
        Set<Integer> come = new HashSet<>();
        int[] f = {0, cell, 0, way};
        while (true) {
            int row = f[1] / 6 + new int[] {-1, 0, 1, 0}[f[3]];
            int column = f[1] % 6 + new int[] {0, 1, 0, -1}[f[3]];
            if (row < 0 || row > 5 || column < 0 || column > 5) {
                return f;
            }
            f[1] = row * 6 + column;
            if (!come.add(f[1] * 4 + f[3])) {
                return null;
            }
            f[0]++;
            switch (s.hedge[f[1]]) {
                case 1: f[3] = turned.charAt(f[3]) - '0'; f[2]++; break;
                case 2: f[3] = back.charAt(f[3]) - '0'; f[2]++; break;
                case 3: return f;
                default: break;
            }
        }
    }

    int flight(int cell, int way, int what) {
        if (cell < 0 || cell > 35 || way < 0 || way > 3 || what < 0 || what > 3) {
            return -1;
        }
        int[] f = fly(cell, way);
        return f == null ? -1 : f[what];
    }

    int comes(int cell, int way) {
        for (int from = 0; from < 144; from++) {
            int c = from % 36;
            int w = from / 36;
            boolean rim = w == 0 && c >= 30 || w == 1 && c % 6 == 0 || w == 2 && c < 6 || w == 3 && c % 6 == 5;
            int[] f = rim ? fly(c, w) : null;
            if (f != null && f[1] == cell && f[3] == way) {
                return from;
            }
        }
        return -1;
    }

    int guess(int row, int right, int near) {
        if (row == -1) {
            s.guesses.clear();
            return 0;
        }
        if (row < 0 || row > 124 || right < 0 || near < 0 || (long) right + near > 3 || s.guesses.size() == 6) {
            return -2;
        }
        s.guesses.add(new int[] {row, right, near});
        return s.guesses.size();
    }

    private static int[] replied(int row, int real) {
        List<Integer> a = new ArrayList<>(List.of(row / 25, row / 5 % 5, row % 5));
        List<Integer> b = new ArrayList<>(List.of(real / 25, real / 5 % 5, real % 5));
        int right = 0;
        for (int i = 2; i >= 0; i--) {
            if (a.get(i).equals(b.get(i))) {
                right++;
                a.remove(i);
                b.remove(i);
            }
        }
        int near = 0;
        for (Integer one : a) {
            near += b.remove(one) ? 1 : 0;
        }
        return new int[] {right, near};
    }

    int answer(int row, int real) {
        if (row < 0 || row > 124 || real < 0 || real > 124) {
            return -1;
        }
        int[] r = replied(row, real);
        return r[0] * 10 + r[1];
    }

    private List<Integer> fitting() {
        List<Integer> all = new ArrayList<>();
        for (int real = 0; real < 125; real++) {
            boolean fits = true;
            for (int[] g : s.guesses) {
                int[] r = replied(g[0], real);
                fits &= r[0] == g[1] && r[1] == g[2];
            }
            if (fits) {
                all.add(real);
            }
        }
        return all;
    }

    int fits() {
        return fitting().size();
    }

    int fit(int i) {
        List<Integer> all = fitting();
        return i >= 0 && i < all.size() ? all.get(i) : -1;
    }

    int ask() {
        List<Integer> all = fitting();
        if (all.size() < 2) {
            return -1;
        }
        int[] most = new int[125];
        for (int row = 0; row < 125; row++) {
            Map<Integer, Integer> alike = new HashMap<>();
            for (int real : all) {
                alike.merge(answer(row, real), 1, Integer::sum);
            }
            most[row] = alike.values().stream().mapToInt(i -> i).max().getAsInt();
        }
        int fewest = Arrays.stream(most).min().getAsInt();
        for (int row : all) {
            if (most[row] == fewest) {
                return row;
            }
        }
        int row = 0;
        while (most[row] != fewest) {
            row++;
        }
        return row;
    }

    boolean gain(int me, int you, int mine, int yours) {
        if (me < 0 || me > 1 || you < 0 || you > 1 || mine < -99 || mine > 99 || yours < -99 || yours > 99) {
            return false;
        }
        s.gain[me][you] = new int[] {mine, yours};
        return true;
    }

    int rests() {
        int bits = 0;
        for (int i = 0; i < 4; i++) {
            int me = i / 2;
            int you = i % 2;
            if (s.gain[1 - me][you][0] <= s.gain[me][you][0] && s.gain[me][1 - you][1] <= s.gain[me][you][1]) {
                bits += 1 << i;
            }
        }
        return bits;
    }

    /** Tries every share whose lower number can come up: found by looking and not by a formula. */
    private int[] share(int a0, int a1, int b0, int b1) {
        // By 0 the other one gains a0 (if this one does 0) or a1 (if 1); by 1 b0 or b1.
        int[] found = null;
        for (int low = 2; low <= 400; low++) {
            for (int up = 1; up < low; up++) {
                int zero = a0 * (low - up) + a1 * up;
                int one = b0 * (low - up) + b1 * up;
                if (zero == one) {
                    if (found != null && found[0] * low != up * found[1]) {
                        return null;
                    }
                    found = found == null ? new int[] {up, low} : found;
                }
            }
        }
        return found;
    }

    int mixed(boolean first, boolean low) {
        int[][][] g = s.gain;
        int[] one = share(g[0][0][1], g[1][0][1], g[0][1][1], g[1][1][1]);
        int[] two = share(g[0][0][0], g[0][1][0], g[1][0][0], g[1][1][0]);
        if (one == null || two == null) {
            return -1;
        }
        return (first ? one : two)[low ? 1 : 0];
    }

    int saying(int costs, int down) {
        if (costs == -1) {
            s.sayings.clear();
            return 0;
        }
        if (costs < 0 || costs > 99 || down < 1 || down > 99 || s.sayings.size() == 8) {
            return -2;
        }
        s.sayings.add(new int[] {costs, down});
        return s.sayings.size();
    }

    int least(int need, boolean costs) {
        if (need < 0 || need > 999) {
            return -1;
        }
        List<int[]> sets = new ArrayList<>();
        for (int set = 0; set < 1 << s.sayings.size(); set++) {
            int cost = 0;
            int down = 0;
            for (int i = 0; i < s.sayings.size(); i++) {
                if ((set & 1 << i) != 0) {
                    cost += s.sayings.get(i)[0];
                    down += s.sayings.get(i)[1];
                }
            }
            if (down >= need) {
                sets.add(new int[] {cost, Integer.bitCount(set), set});
            }
        }
        sets.sort((a, b) -> Arrays.compare(a, b));
        return sets.isEmpty() ? -1 : sets.get(0)[costs ? 0 : 2];
    }

    long near(int odds, int from, int limit, boolean low) {
        if (odds < 1 || odds > 9 || limit < 1 || limit > 12 || from < 0 || from > limit) {
            return -1;
        }
        // odds * h(i+1) = 10 * h(i) - (10 - odds) * h(i-1), all times odds so often as steps are gone.
        BigInteger[] h = new BigInteger[limit + 1];
        h[0] = BigInteger.ZERO;
        h[1] = BigInteger.valueOf(odds).pow(limit);
        for (int i = 1; i < limit; i++) {
            h[i + 1] = h[i].multiply(BigInteger.TEN).subtract(h[i - 1].multiply(BigInteger.valueOf(10 - odds)));
            if (h[i + 1].mod(BigInteger.valueOf(odds)).signum() != 0) {
                throw new IllegalStateException("not scaled enough");
            }
            h[i + 1] = h[i + 1].divide(BigInteger.valueOf(odds));
        }
        BigInteger shared = h[from].gcd(h[limit]);
        return (low ? h[limit] : h[from]).divide(shared).longValueExact();
    }

    private static final Map<List<Integer>, Boolean> WINS = new HashMap<>();

    /** Of squares left, by rows: whether who takes next wins; with none left the other one took the first one. */
    private static boolean wins(List<Integer> shape) {
        if (shape.get(0) == 0) {
            return true;
        }
        Boolean known = WINS.get(shape);
        if (known == null) {
            known = false;
            for (int row = 0; row < 5; row++) {
                for (int column = 0; column < shape.get(row); column++) {
                    known |= !wins(eaten(shape, row, column));
                }
            }
            WINS.put(shape, known);
        }
        return known;
    }

    private static List<Integer> eaten(List<Integer> shape, int row, int column) {
        List<Integer> left = new ArrayList<>(shape);
        for (int i = row; i < 5; i++) {
            left.set(i, Math.min(column, shape.get(i)));
        }
        return left;
    }

    int game(int tall, int wide) {
        if (tall < 1 || tall > 5 || wide < 1 || wide > 5) {
            return -1;
        }
        List<Integer> shape = new ArrayList<>();
        for (int i = 0; i < 5; i++) {
            shape.add(i < tall ? wide : 0);
        }
        return wins(shape) ? 1 : 0;
    }

    int bite(int shape, boolean up) {
        if (shape < 0 || shape > 55555) {
            return -1;
        }
        List<Integer> rows = new ArrayList<>();
        for (char c : String.format("%05d", shape).toCharArray()) {
            if (!rows.isEmpty() && c - '0' > rows.get(rows.size() - 1)) {
                return -1;
            }
            rows.add(c - '0');
        }
        for (int row = 0; row < 5; row++) {
            for (int column = 0; column < rows.get(row); column++) {
                if (!wins(eaten(rows, row, column))) {
                    return up ? row : column;
                }
            }
        }
        return -1;
    }

    int told(int kin, int reaches) {
        if (kin == -1) {
            s.told.clear();
            return 0;
        }
        if (!is(kin, true) || reaches < 0 || reaches > 10 || s.told.size() == 8) {
            return -2;
        }
        s.told.add(new int[] {kin, reaches});
        return s.told.size();
    }

    int whose() {
        int bits = 0;
        for (int i = 0; i < s.texts.size(); i++) {
            boolean all = true;
            for (int[] t : s.told) {
                all &= reaches(s.texts.get(i), s.table, t[0]) == t[1];
            }
            bits += all ? 1 << i : 0;
        }
        return bits;
    }

    int fullest() {
        for (int kept = 99; kept > 0; kept--) {
            for (int i = 0; i < s.table.kin.size(); i++) {
                if (s.table.kin.get(i).kept == kept) {
                    return i;
                }
            }
        }
        return -1;
    }

    int calm() {
        int bits = 0;
        for (int i = 0; i < s.table.kin.size(); i++) {
            bits += s.table.kin.get(i).kept == 0 ? 1 << i : 0;
        }
        return bits;
    }

    int ledger(int kin) {
        if (kin != -1 && !is(kin, true)) {
            return -2;
        }
        return (int) s.table.book.stream().filter(l -> kin == -1 || l.who == kin).count();
    }

    int image() {
        image = s.copy();
        return s.table.dinner;
    }

    int back() {
        s = image.copy();
        return s.table.dinner;
    }

    int about(int what) {
        switch (what) {
            case 0: return s.table.kin.size();
            case 1: return s.texts.size();
            case 2: return s.ruling;
            case 3: return s.steps.size();
            case 4: return s.guesses.size();
            case 5: return s.sayings.size();
            case 6: return s.told.size();
            case 7: return tape.length();
            default: return -2;
        }
    }
}
