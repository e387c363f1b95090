import java.util.Arrays;

/** Kin around a table, what each has kept, and what comes of it; ../shared/DOC.md is what it must do. */
public final class QuiverKin {
    public static final int NONE = -1;

    private static final int REFUSED = -2;
    private static final int MOST_KIN = 6;
    private static final int MOST_KEPT = 99;
    private static final int MOST_LINES = 25;
    private static final int MOST_STEPS = 30;
    private static final int MOST_TEXTS = 4;
    private static final int MOST_BYTES = 300;
    private static final int MOST_CLAUSES = 24;
    private static final int MOST_OPEN = 8;
    private static final int MOST_NUMBER = 9999;
    private static final int MOST_SUM = 1000000;
    private static final int MOST_DINNERS = 60;
    private static final int LAST_DINNER = 9999;
    private static final int USUAL_BEARS = 5;
    private static final int SIDE = 6;
    private static final int CELLS = 36;
    private static final int ROWS = 125;

    /** The shapes of A GAME from which who takes next loses; the tests reckon them anew. */
    private static final int[] LOSING = {
        10000, 21000, 22100, 22210, 22221, 31100, 32000, 33110, 33211, 33322, 41110, 42111,
        42200, 43000, 44222, 44311, 51111, 52110, 53200, 53320, 54000, 55220, 55300
    };

    private final House house = new House();
    private final House imaged = new House();
    private final Table trial = new Table();
    private final Asker asker = new Asker();
    private final Tape tape = new Tape();
    private final Reader reader = new Reader(tape);
    private final Rounds rounds = new Rounds();
    private final Flier flier = new Flier();
    private final Rows rows = new Rows();

    public QuiverKin() {
    }

    // ---- the kin and the tape

    public int kin(int temper, int kept) {
        if (!within(temper, 0, 9) || !within(kept, 0, MOST_KEPT)) {
            return NONE;
        }
        return house.table.seatOneMore(temper, kept);
    }

    public int feed(int a, int b, int c, int d, int e) {
        if (tape.length > MOST_BYTES - 20) {
            return NONE;
        }
        tape.addFour(a);
        tape.addFour(b);
        tape.addFour(c);
        tape.addFour(d);
        tape.addFour(e);
        return tape.length;
    }

    public int end(int n) {
        if (!within(n, 0, tape.length)) {
            return NONE;
        }
        tape.length = n;
        return n;
    }

    public int text() {
        if (house.textCount >= MOST_TEXTS) {
            return NONE;
        }
        Text read = reader.readTape();
        tape.length = 0;
        return read == null ? NONE : house.keepText(read);
    }

    public int fault(int what) {
        switch (what) {
            case 0: return reader.fault;
            case 1: return reader.faultAt;
            default: return NONE;
        }
    }

    public boolean by(int text) {
        if (!within(text, NONE, house.textCount - 1)) {
            return false;
        }
        house.ruling = text;
        return true;
    }

    // ---- the steps

    public int reach(int kin) {
        if (!house.table.canReach(kin)) {
            return NONE;
        }
        house.saveStep();
        return house.table.keepOneMore(kin);
    }

    public boolean down(int kin, int n) {
        if (!within(n, 1, MOST_KEPT) || !house.table.canPutDown(kin, n)) {
            return false;
        }
        house.saveStep();
        house.table.putDown(kin, n);
        return true;
    }

    public boolean strap(int kin) {
        if (!house.table.has(kin)) {
            return false;
        }
        house.saveStep();
        house.table.turnStrap(kin);
        return true;
    }

    public boolean swap(int a, int b) {
        if (!house.table.canSwap(a, b)) {
            return false;
        }
        house.saveStep();
        house.table.swapSeats(a, b);
        return true;
    }

    public int dinner(int n) {
        if (!within(n, 1, MOST_DINNERS) || house.table.dinner + n > LAST_DINNER) {
            return NONE;
        }
        return house.dine(n, asker);
    }

    public int played(int text) {
        Text script = house.textOf(text);
        if (script == null) {
            return REFUSED;
        }
        int[] clauses = script.clauses;
        for (int i = 0; i < MOST_CLAUSES && 3 * i + 2 < clauses.length; i++) {
            if (!done(clauses[3 * i], clauses[3 * i + 1], clauses[3 * i + 2])) {
                return i;
            }
        }
        return NONE;
    }

    private boolean done(int clause, int a, int b) {
        switch (clause) {
            case Kind.KIN: return kin(a, b) != NONE;
            case Kind.REACH: return reach(a) != NONE;
            case Kind.DOWN: return down(a, b);
            case Kind.STRAP: return strap(a);
            case Kind.SWAP: return swap(a, b);
            case Kind.DINNER:
                boolean allPass = house.table.dinner + a <= LAST_DINNER;
                house.dine(a, asker);
                return allPass;
            default: return true;
        }
    }

    public int years(int seed, int n) {
        if (!within(seed, 0, 9999) || !within(n, 1, 40)) {
            return NONE;
        }
        house.saveStep();
        house.table.x = seed * 2 + 421;
        for (int i = 0; i < n; i++) {
            passYear(house.table.draw());
        }
        return house.table.dinner;
    }

    private void passYear(int drawn) {
        Table table = house.table;
        int sort = drawn % 6;
        if (sort >= 4) {
            if (table.dinner < LAST_DINNER) {
                table.passDinner(house.law(), asker);
            }
        } else if (table.count > 0) {
            changeOne(table, sort, drawn / 6 % table.count, drawn);
        }
    }

    private static void changeOne(Table table, int sort, int who, int drawn) {
        if (sort == 0 && table.canReach(who)) {
            table.keepOneMore(who);
        }
        int less = 1 + drawn % 3;
        if (sort == 1 && table.canPutDown(who, less)) {
            table.putDown(who, less);
        }
        int next = who + 1 < table.count ? who + 1 : 0;
        if (sort == 2 && drawn % 4 == 2 && table.canSwap(who, next)) {
            table.swapSeats(who, next);
        }
        if (sort == 3 && drawn % 4 == 1) {
            table.turnStrap(who);
        }
    }

    public int undo() {
        return house.takeBack();
    }

    // ---- what is so now

    public int of(int kin, int what) {
        Table table = house.table;
        if (!table.has(kin)) {
            return NONE;
        }
        switch (what) {
            case 0: return get(table.temper, kin);
            case 1: return get(table.kept, kin);
            case 2: return get(table.seatOf, kin);
            case 3: return table.isStrapped(kin) ? 1 : 0;
            case 4: return asker.reachesOf(house.law(), table, kin);
            case 5: return asker.bearsOf(house.law(), table, kin);
            case 6: return table.whoFrom(kin, table.count / 2);
            default: return NONE;
        }
    }

    public int at(int seat) {
        return house.table.has(seat) ? get(house.table.whoAt, seat) : NONE;
    }

    public int is(int what) {
        switch (what) {
            case 0: return house.table.dinner;
            case 1: return house.table.x;
            case 2: return house.table.keptOfAll();
            case 3: return house.table.strapped;
            default: return REFUSED;
        }
    }

    public int book(int i, int what) {
        Table table = house.table;
        if (i == NONE) {
            return table.lineCount;
        }
        if (!within(i, 0, table.lineCount - 1)) {
            return REFUSED;
        }
        int line = get(table.lines, i);
        switch (what) {
            case 0: return Table.dinnerOf(line);
            case 1: return Table.whoOf(line);
            case 2: return Table.throughOf(line);
            case 3: return Table.stuckOf(line);
            default: return REFUSED;
        }
    }

    public int fullest() {
        return house.table.whoKeptMost();
    }

    public int calm() {
        return house.table.whoKeptNone();
    }

    public int ledger(int kin) {
        if (kin == NONE) {
            return house.table.lineCount;
        }
        return house.table.has(kin) ? house.table.linesOf(kin) : REFUSED;
    }

    // ---- what comes, and the seatings

    public int foretold(int n, int kin) {
        if (!within(n, 1, MOST_DINNERS) || !house.table.has(kin)) {
            return NONE;
        }
        trial.become(house.table);
        for (int i = 0; i < n && trial.dinner < LAST_DINNER; i++) {
            trial.passDinner(house.law(), asker);
        }
        return get(trial.kept, kin);
    }

    public boolean spite(int a, int b, int spite) {
        if (!house.table.canSwap(a, b) || !within(spite, 0, 99)) {
            return false;
        }
        put(house.spites, a * MOST_KIN + b, spite);
        put(house.spites, b * MOST_KIN + a, spite);
        return true;
    }

    public int round(boolean best) {
        rounds.weighAll(house);
        return best ? rounds.least : rounds.most;
    }

    public int seating(int seat) {
        if (!house.table.has(seat)) {
            return NONE;
        }
        rounds.weighAll(house);
        return get(rounds.best, seat);
    }

    public int seatings() {
        rounds.weighAll(house);
        return rounds.asGood;
    }

    public int spiteNow() {
        return rounds.spiteAround(house);
    }

    public int mend(int what) {
        rounds.seekMend(house);
        switch (what) {
            case 0: return rounds.mendLow;
            case 1: return rounds.mendHigh;
            case 2: return rounds.mendSpite;
            default: return NONE;
        }
    }

    // ---- the garden

    public boolean hedge(int cell, int sort) {
        if (!within(cell, 0, CELLS - 1) || !within(sort, 0, 3)) {
            return false;
        }
        put(house.hedges, cell, sort);
        return true;
    }

    public int flight(int cell, int way, int what) {
        if (!within(cell, 0, CELLS - 1) || !within(way, 0, 3) || !flier.ends(house.hedges, cell, way)) {
            return NONE;
        }
        switch (what) {
            case 0: return flier.cells;
            case 1: return flier.cell;
            case 2: return flier.turns;
            case 3: return flier.way;
            default: return NONE;
        }
    }

    public int comes(int cell, int way) {
        if (!within(cell, 0, CELLS - 1) || !within(way, 0, 3)) {
            return NONE;
        }
        for (int inwards = 0; inwards < 4; inwards++) {
            for (int i = 0; i < SIDE; i++) {
                int rim = Flier.rimCell(inwards, i);
                if (flier.ends(house.hedges, rim, inwards) && flier.cell == cell && flier.way == way) {
                    return CELLS * inwards + rim;
                }
            }
        }
        return NONE;
    }

    // ---- guesses and answers

    public int guess(int row, int right, int near) {
        if (row == NONE) {
            return house.guesses.clear();
        }
        if (!within(row, 0, ROWS - 1) || !within(right, 0, 3) || !within(near, 0, 3 - right)) {
            return REFUSED;
        }
        return house.guesses.add(row, 10 * right + near);
    }

    public int answer(int row, int real) {
        if (!within(row, 0, ROWS - 1) || !within(real, 0, ROWS - 1)) {
            return NONE;
        }
        return rows.replyOf(row, real);
    }

    public int fits() {
        rows.sift(house.guesses);
        return rows.fitCount;
    }

    public int fit(int i) {
        rows.sift(house.guesses);
        return within(i, 0, rows.fitCount - 1) ? get(rows.fitting, i) : NONE;
    }

    public int ask() {
        rows.sift(house.guesses);
        return rows.fitCount > 1 ? rows.bestAsked() : NONE;
    }

    // ---- two who wait

    public boolean gain(int me, int you, int mine, int yours) {
        if (!within(me, 0, 1) || !within(you, 0, 1) || !within(mine, -99, 99) || !within(yours, -99, 99)) {
            return false;
        }
        put(house.gains, 4 * me + 2 * you, mine);
        put(house.gains, 4 * me + 2 * you + 1, yours);
        return true;
    }

    private int gainOf(int me, int you, int whose) {
        return get(house.gains, 4 * me + 2 * you + whose);
    }

    public int rests() {
        int bits = 0;
        for (int me = 0; me < 2; me++) {
            for (int you = 0; you < 2; you++) {
                boolean stays = gainOf(me, you, 0) >= gainOf(1 - me, you, 0);
                if (stays && gainOf(me, you, 1) >= gainOf(me, 1 - you, 1)) {
                    bits |= 1 << (2 * me + you);
                }
            }
        }
        return bits;
    }

    public int mixed(boolean first, boolean low) {
        // How much more 0 gains the other one than 1 does, by what this one does.
        int byZero = gainOf(0, 0, 1) - gainOf(0, 1, 1);
        int byOne = gainOf(1, 0, 1) - gainOf(1, 1, 1);
        int otherByZero = gainOf(0, 0, 0) - gainOf(1, 0, 0);
        int otherByOne = gainOf(0, 1, 0) - gainOf(1, 1, 0);
        if (!unlikeSigns(byZero, byOne) || !unlikeSigns(otherByZero, otherByOne)) {
            return NONE;
        }
        int upper = Math.abs(first ? byZero : otherByZero);
        int lower = upper + Math.abs(first ? byOne : otherByOne);
        return (int) lowest(low ? lower : upper, upper, lower);
    }

    private static boolean unlikeSigns(int a, int b) {
        return a < 0 && b > 0 || a > 0 && b < 0;
    }

    // ---- the least said, how near is nearly

    public int saying(int costs, int down) {
        if (costs == NONE) {
            return house.sayings.clear();
        }
        if (!within(costs, 0, 99) || !within(down, 1, 99)) {
            return REFUSED;
        }
        return house.sayings.add(costs, down);
    }

    public int least(int need, boolean costs) {
        if (!within(need, 0, 999)) {
            return NONE;
        }
        int set = leastSet(need);
        return costs && set != NONE ? sumOf(house.sayings.first, set) : set;
    }

    private int leastSet(int need) {
        int best = NONE;
        int bestCosts = 0;
        for (int set = 0; set < 256 && set < 1 << house.sayings.count; set++) {
            if (sumOf(house.sayings.second, set) < need) {
                continue;
            }
            int costs = sumOf(house.sayings.first, set);
            boolean fewer = costs == bestCosts && Integer.bitCount(set) < Integer.bitCount(best);
            if (best == NONE || costs < bestCosts || fewer) {
                best = set;
                bestCosts = costs;
            }
        }
        return best;
    }

    private static int sumOf(int[] row, int set) {
        int sum = 0;
        for (int i = 0; i < row.length; i++) {
            sum += row[i] * (set >> i & 1);
        }
        return sum;
    }

    public long near(int odds, int from, int limit, boolean low) {
        if (!within(odds, 1, 9) || !within(limit, 1, 12) || !within(from, 0, limit)) {
            return NONE;
        }
        // One less against one more is (10 - odds) : odds; from steps of that row's powers stand against all limit.
        long upper = 0;
        long lower = 0;
        for (int i = 0; i < limit; i++) {
            long power = 1;
            for (int k = 0; k < limit - 1; k++) {
                power *= k < i ? 10 - odds : odds;
            }
            lower += power;
            upper += i < from ? power : 0;
        }
        return lowest(low ? lower : upper, upper, lower);
    }

    /** What is asked of a fraction, without what its upper and its lower number share. */
    private static long lowest(long asked, long upper, long lower) {
        long a = upper;
        long b = lower;
        for (int i = 0; i < 1000 && b != 0; i++) {
            long rest = a % b;
            a = b;
            b = rest;
        }
        return a == 0 ? asked : asked / a;
    }

    // ---- a game of bites

    public int game(int tall, int wide) {
        if (!within(tall, 1, 5) || !within(wide, 1, 5)) {
            return NONE;
        }
        int shape = 0;
        for (int row = 0; row < 5; row++) {
            shape = shape * 10 + (row < tall ? wide : 0);
        }
        return isLosing(shape) ? 0 : 1;
    }

    public int bite(int shape, boolean up) {
        if (!isShape(shape)) {
            return NONE;
        }
        for (int row = 0; row < 5; row++) {
            for (int column = 0; column < widthOf(shape, row); column++) {
                if (isLosing(bitten(shape, row, column))) {
                    return up ? row : column;
                }
            }
        }
        return NONE;
    }

    private static boolean isShape(int shape) {
        boolean falls = within(shape, 0, 55555);
        for (int row = 1; row < 5; row++) {
            falls = falls && widthOf(shape, row) <= widthOf(shape, row - 1);
        }
        return falls;
    }

    private static int widthOf(int shape, int row) {
        int rest = shape;
        for (int below = 4; below > row; below--) {
            rest /= 10;
        }
        return rest % 10;
    }

    private static int bitten(int shape, int row, int column) {
        int left = 0;
        for (int i = 0; i < 5; i++) {
            int width = widthOf(shape, i);
            left = left * 10 + (i >= row && width > column ? column : width);
        }
        return left;
    }

    private static boolean isLosing(int shape) {
        for (int i = 0; i < LOSING.length; i++) {
            if (LOSING[i] == shape) {
                return true;
            }
        }
        return false;
    }

    // ---- whose law it was

    public int told(int kin, int reaches) {
        if (kin == NONE) {
            return house.tellings.clear();
        }
        if (!house.table.has(kin) || !within(reaches, 0, 10)) {
            return REFUSED;
        }
        return house.tellings.add(kin, reaches);
    }

    public int whose() {
        int bits = 0;
        for (int i = 0; i < house.textCount; i++) {
            if (agrees(house.textOf(i))) {
                bits |= 1 << i;
            }
        }
        return bits;
    }

    private boolean agrees(Text law) {
        for (int i = 0; i < house.tellings.count; i++) {
            int who = get(house.tellings.first, i);
            if (asker.reachesOf(law, house.table, who) != get(house.tellings.second, i)) {
                return false;
            }
        }
        return true;
    }

    // ---- the image

    public int image() {
        imaged.become(house);
        return house.table.dinner;
    }

    public int back() {
        house.become(imaged);
        return house.table.dinner;
    }

    public int about(int what) {
        switch (what) {
            case 0: return house.table.count;
            case 1: return house.textCount;
            case 2: return house.ruling;
            case 3: return house.stepCount;
            case 4: return house.guesses.count;
            case 5: return house.sayings.count;
            case 6: return house.tellings.count;
            case 7: return tape.length;
            default: return REFUSED;
        }
    }

    // ---- small helpers of all

    private static boolean within(int value, int low, int high) {
        return value >= low && value <= high;
    }

    private static int get(int[] row, int i) {
        return i >= 0 && i < row.length ? row[i] : 0;
    }

    private static void put(int[] row, int i, int value) {
        if (i >= 0 && i < row.length) {
            row[i] = value;
        }
    }

    /** THE KIN at their SEATS, with all that a STEP changes. */
    private static final class Table {
        private final int[] temper = new int[MOST_KIN];
        private final int[] kept = new int[MOST_KIN];
        private final int[] seatOf = new int[MOST_KIN];
        private final int[] whoAt = new int[MOST_KIN];
        /** THE BOOK, the eldest line first, each packed into one number. */
        private final int[] lines = new int[MOST_LINES];
        private int count;
        private int strapped;
        private int dinner;
        private int x = 421;
        private int lineCount;

        private void become(Table other) {
            count = other.count;
            for (int i = 0; i < temper.length; i++) {
                temper[i] = get(other.temper, i);
            }
            returnTo(other, MOST_KIN);
        }

        /** THE KIN told behind the first ones stay: with all later STEPS taken back they are as told. */
        private void returnTo(Table before, int first) {
            for (int i = 0; i < MOST_KIN && i < first; i++) {
                put(kept, i, get(before.kept, i));
                put(seatOf, i, get(before.seatOf, i));
                put(whoAt, i, get(before.whoAt, i));
            }
            strapped = before.strapped;
            dinner = before.dinner;
            x = before.x;
            lineCount = before.lineCount;
            for (int i = 0; i < lines.length; i++) {
                lines[i] = get(before.lines, i);
            }
        }

        private int seatOneMore(int itsTemper, int itsKept) {
            if (count >= MOST_KIN) {
                return NONE;
            }
            put(temper, count, itsTemper);
            put(kept, count, itsKept);
            put(seatOf, count, count);
            put(whoAt, count, count);
            count++;
            return count - 1;
        }

        private boolean has(int who) {
            return who >= 0 && who < count;
        }

        private boolean isStrapped(int who) {
            return (strapped >> who & 1) == 1;
        }

        private boolean canReach(int who) {
            return has(who) && !isStrapped(who);
        }

        private boolean canPutDown(int who, int n) {
            return has(who) && get(kept, who) >= n;
        }

        private boolean canSwap(int a, int b) {
            return has(a) && has(b) && a != b;
        }

        private int keepOneMore(int who) {
            int more = Math.min(get(kept, who) + 1, MOST_KEPT);
            put(kept, who, more);
            return more;
        }

        private void putDown(int who, int n) {
            put(kept, who, get(kept, who) - n);
        }

        private void turnStrap(int who) {
            strapped ^= 1 << who;
        }

        private void swapSeats(int a, int b) {
            int seatOfA = get(seatOf, a);
            int seatOfB = get(seatOf, b);
            put(seatOf, a, seatOfB);
            put(seatOf, b, seatOfA);
            put(whoAt, seatOfA, b);
            put(whoAt, seatOfB, a);
        }

        /** Who sits so many SEATS further on than one; looks at its indices itself, for it is the deepest call. */
        private int whoFrom(int who, int further) {
            if (who < 0 || who >= count || who >= seatOf.length) {
                return 0;
            }
            int seat = (seatOf[who] + further) % count;
            return seat >= 0 && seat < whoAt.length ? whoAt[seat] : 0;
        }

        private int draw() {
            int drawn = x;
            x = (x * 673 + 547) % 30971;
            return drawn;
        }

        private int passDinner(Text law, Asker asker) {
            for (int seat = 0; seat < count && seat < MOST_KIN; seat++) {
                int who = get(whoAt, seat);
                if (!isStrapped(who) && draw() % 10 < asker.reachesOf(law, this, who)) {
                    keepOneMore(who);
                }
            }
            int loosed = 0;
            for (int seat = 0; seat < count && seat < MOST_KIN; seat++) {
                int who = get(whoAt, seat);
                if (!isStrapped(who) && get(kept, who) > asker.bearsOf(law, this, who)) {
                    letLoose(who);
                    loosed++;
                }
            }
            dinner++;
            return loosed;
        }

        private void letLoose(int who) {
            put(kept, who, get(kept, who) / 2);
            int through = 0;
            int stuck = NONE;
            // Of one alone the SEAT ACROSS is its own, where the way ends at once.
            for (int further = Math.max(1, count / 2); further < count && stuck == NONE; further++) {
                int there = whoFrom(who, further);
                if (get(kept, there) == 0) {
                    through |= 1 << there;
                } else {
                    keepOneMore(there);
                    stuck = there;
                }
            }
            write(((dinner * 8 + who) * 64 + through) * 8 + stuck + 1);
        }

        private void write(int line) {
            if (lineCount >= MOST_LINES) {
                for (int i = 1; i < lines.length; i++) {
                    lines[i - 1] = lines[i];
                }
                lineCount = MOST_LINES - 1;
            }
            put(lines, lineCount, line);
            lineCount++;
        }

        private static int dinnerOf(int line) {
            return line / 4096;
        }

        private static int whoOf(int line) {
            return line / 512 % 8;
        }

        private static int throughOf(int line) {
            return line / 8 % 64;
        }

        private static int stuckOf(int line) {
            return line % 8 - 1;
        }

        private int linesOf(int who) {
            int n = 0;
            for (int i = 0; i < lineCount; i++) {
                n += whoOf(get(lines, i)) == who ? 1 : 0;
            }
            return n;
        }

        private int keptOfAll() {
            int sum = 0;
            for (int who = 0; who < count; who++) {
                sum += get(kept, who);
            }
            return sum;
        }

        private int whoKeptMost() {
            int best = NONE;
            int most = 0;
            for (int who = 0; who < count; who++) {
                if (get(kept, who) > most) {
                    best = who;
                    most = get(kept, who);
                }
            }
            return best;
        }

        private int whoKeptNone() {
            int bits = 0;
            for (int who = 0; who < count; who++) {
                bits |= get(kept, who) == 0 ? 1 << who : 0;
            }
            return bits;
        }
    }

    /** Two numbers told at once, so many times at most. */
    private static final class Pairs {
        private final int[] first;
        private final int[] second;
        private int count;

        private Pairs(int most) {
            first = new int[Math.max(most, 0)];
            second = new int[Math.max(most, 0)];
        }

        private int clear() {
            count = 0;
            return 0;
        }

        private int add(int a, int b) {
            if (count >= first.length) {
                return REFUSED;
            }
            put(first, count, a);
            put(second, count, b);
            count++;
            return count;
        }

        private void become(Pairs other) {
            count = other.count;
            for (int i = 0; i < first.length; i++) {
                first[i] = get(other.first, i);
                put(second, i, get(other.second, i));
            }
        }
    }

    /** All that AN IMAGE holds. */
    private static final class House {
        private final Table table = new Table();
        /** A ring: the table as it was ahead of each STEP. */
        private final Table[] steps = new Table[MOST_STEPS];
        private final Text[] texts = new Text[MOST_TEXTS];
        private final int[] spites = new int[MOST_KIN * MOST_KIN];
        private final int[] hedges = new int[CELLS];
        private final int[] gains = new int[8];
        private final Pairs guesses = new Pairs(6);
        private final Pairs sayings = new Pairs(8);
        private final Pairs tellings = new Pairs(8);
        private int firstStep;
        private int stepCount;
        private int textCount;
        private int ruling = NONE;

        private House() {
            for (int i = 0; i < steps.length; i++) {
                steps[i] = new Table();
            }
        }

        private void become(House other) {
            table.become(other.table);
            for (int i = 0; i < MOST_STEPS; i++) {
                Table step = stepAt(i);
                Table like = other.stepAt(i);
                if (step != null && like != null) {
                    step.become(like);
                }
            }
            for (int i = 0; i < texts.length && i < other.texts.length; i++) {
                texts[i] = other.texts[i];
            }
            copyAll(other.spites, spites);
            copyAll(other.hedges, hedges);
            copyAll(other.gains, gains);
            guesses.become(other.guesses);
            sayings.become(other.sayings);
            tellings.become(other.tellings);
            firstStep = other.firstStep;
            stepCount = other.stepCount;
            textCount = other.textCount;
            ruling = other.ruling;
        }

        private static void copyAll(int[] from, int[] to) {
            for (int i = 0; i < to.length; i++) {
                to[i] = get(from, i);
            }
        }

        private int keepText(Text text) {
            if (textCount >= texts.length || textCount < 0) {
                return NONE;
            }
            texts[textCount] = text;
            textCount++;
            return textCount - 1;
        }

        private Text textOf(int i) {
            return i >= 0 && i < textCount && i < texts.length ? texts[i] : null;
        }

        private Text law() {
            return textOf(ruling);
        }

        private Table stepAt(int place) {
            return place >= 0 && place < steps.length ? steps[place] : null;
        }

        private void saveStep() {
            Table step = stepAt((firstStep + stepCount) % MOST_STEPS);
            if (step != null) {
                step.become(table);
            }
            if (stepCount < MOST_STEPS) {
                stepCount++;
            } else {
                firstStep = (firstStep + 1) % MOST_STEPS;
            }
        }

        private int takeBack() {
            if (stepCount <= 0) {
                return NONE;
            }
            stepCount--;
            Table before = stepAt((firstStep + stepCount) % MOST_STEPS);
            if (before != null) {
                table.returnTo(before, before.count);
            }
            return stepCount;
        }

        /** So many DINNERS, each a STEP, as far as they can pass: how many are LOOSED. */
        private int dine(int n, Asker asker) {
            int loosed = 0;
            for (int i = 0; i < n && i < MOST_DINNERS && table.dinner < LAST_DINNER; i++) {
                saveStep();
                loosed += table.passDinner(law(), asker);
            }
            return loosed;
        }
    }

    /** What a TOKEN is, the words by their order in WORDS and the signs by theirs in SIGNS; code bears the same numbers. */
    private static final class Kind {
        private static final String WORDS =
            "reaches bears kin kept reach down by strap swap with dinner who temper seat beside loose across quiver if then else end or and not ";
        private static final int REACHES = 0;
        private static final int BEARS = 1;
        private static final int KIN = 2;
        private static final int KEPT = 3;
        private static final int REACH = 4;
        private static final int DOWN = 5;
        private static final int BY = 6;
        private static final int STRAP = 7;
        private static final int SWAP = 8;
        private static final int WITH = 9;
        private static final int DINNER = 10;
        private static final int WHO = 11;
        private static final int TEMPER = 12;
        private static final int SEAT = 13;
        private static final int BESIDE = 14;
        private static final int LOOSE = 15;
        private static final int ACROSS = 16;
        private static final int QUIVER = 17;
        private static final int IF = 18;
        private static final int THEN = 19;
        private static final int ELSE = 20;
        private static final int END = 21;
        private static final int OR = 22;
        private static final int AND = 23;
        private static final int NOT = 24;
        private static final String SIGNS = "<>=#+-*/();";
        private static final int LESS = 25;
        private static final int MORE = 26;
        private static final int LIKE = 27;
        private static final int UNLIKE = 28;
        private static final int PLUS = 29;
        private static final int MINUS = 30;
        private static final int TIMES = 31;
        private static final int OVER = 32;
        private static final int OPEN = 33;
        private static final int CLOSE = 34;
        private static final int STOP = 35;
        private static final int AT_MOST = 36;
        private static final int AT_LEAST = 37;
        private static final int NUMBER = 38;
        private static final int OTHER = 39;
        private static final int LAST = 40;
        /** Of code alone: a MINUS of one ONE. */
        private static final int NEGATE = 41;

        private static boolean isComparison(int kind) {
            return kind >= LESS && kind <= UNLIKE || kind == AT_MOST || kind == AT_LEAST;
        }

        private static boolean isName(int kind) {
            return kind == KEPT || kind >= DINNER && kind <= LOOSE;
        }

        private static boolean opensOne(int kind) {
            return kind == OPEN || kind == MINUS || kind >= ACROSS && kind <= IF;
        }

        private static boolean opensClause(int kind) {
            switch (kind) {
                case REACHES: case BEARS: case KIN: case REACH: case DOWN: case STRAP: case SWAP: case DINNER:
                    return true;
                default:
                    return false;
            }
        }
    }

    /** A TEXT that was read: its CLAUSES by three numbers each, its laws as code. */
    private static final class Text {
        private final int[] clauses;
        private final int[] code;
        private final int reachesAt;
        private final int bearsAt;

        private Text(int[] clauses, int[] code, int reachesAt, int bearsAt) {
            this.clauses = clauses;
            this.code = code;
            this.reachesAt = reachesAt;
            this.bearsAt = bearsAt;
        }
    }

    /** The tape, and the TOKENS that it is cut into. */
    private static final class Tape {
        private final int[] bytes = new int[MOST_BYTES];
        private int length;
        private final int[] kinds = new int[MOST_BYTES + 1];
        private final int[] values = new int[MOST_BYTES + 1];
        private final int[] places = new int[MOST_BYTES + 1];
        private int tokenCount;

        private void addFour(int word) {
            for (int shift = 24; shift >= 0; shift -= 8) {
                put(bytes, length, word >> shift & 255);
                length++;
            }
        }

        private int byteAt(int i) {
            return i >= 0 && i < length && i < bytes.length ? bytes[i] : 0;
        }

        private void cutIntoTokens() {
            tokenCount = 0;
            int place = 0;
            for (int i = 0; i < MOST_BYTES && place < length; i++) {
                int first = byteAt(place);
                if (first == ' ' || first == '\n') {
                    place++;
                } else if (isDigit(first)) {
                    place = cutNumber(place);
                } else if (isLetter(first)) {
                    place = cutWord(place);
                } else {
                    place = cutSign(place);
                }
            }
            addToken(Kind.LAST, 0, length);
        }

        private void addToken(int kind, int value, int place) {
            put(kinds, tokenCount, kind);
            put(values, tokenCount, value);
            put(places, tokenCount, place);
            tokenCount++;
        }

        private int cutNumber(int from) {
            int value = 0;
            int to = from;
            for (int i = 0; i < MOST_BYTES && isDigit(byteAt(to)); i++) {
                value = Math.min(value * 10 + byteAt(to) - '0', MOST_NUMBER + 1);
                to++;
            }
            addToken(Kind.NUMBER, value, from);
            return to;
        }

        private int cutWord(int from) {
            int to = from;
            for (int i = 0; i < MOST_BYTES && isLetter(byteAt(to)); i++) {
                to++;
            }
            addToken(wordKind(from, to), 0, from);
            return to;
        }

        private int wordKind(int from, int to) {
            int kind = 0;
            int place = from;
            boolean same = true;
            for (int i = 0; i < Kind.WORDS.length(); i++) {
                char sign = Kind.WORDS.charAt(i);
                if (sign != ' ') {
                    same = same && place < to && byteAt(place) == sign;
                    place++;
                } else if (same && place == to) {
                    return kind;
                } else {
                    kind++;
                    place = from;
                    same = true;
                }
            }
            return Kind.OTHER;
        }

        private int cutSign(int from) {
            int first = byteAt(from);
            boolean wider = byteAt(from + 1) == '=';
            if (wider && (first == '<' || first == '>')) {
                addToken(first == '<' ? Kind.AT_MOST : Kind.AT_LEAST, 0, from);
                return from + 2;
            }
            int sign = Kind.SIGNS.indexOf((char) first);
            addToken(sign < 0 ? Kind.OTHER : Kind.LESS + sign, 0, from);
            return from + 1;
        }

        private static boolean isDigit(int sign) {
            return sign >= '0' && sign <= '9';
        }

        private static boolean isLetter(int sign) {
            return sign >= 'a' && sign <= 'z' || sign >= 'A' && sign <= 'Z';
        }
    }

    /** Reads the tape TOKEN by TOKEN, up to its first FAULT; behind that nothing more is taken. */
    private static final class Reader {
        private final Tape tape;
        private final int[] clauses = new int[3 * MOST_CLAUSES];
        private final int[] code = new int[MOST_BYTES + 1];
        private int clauseCount;
        private int codeLength;
        private int reachesAt;
        private int bearsAt;
        /** The law that is being read. */
        private int law;
        private int next;
        private int fault = NONE;
        private int faultAt = NONE;

        private Reader(Tape tape) {
            this.tape = tape;
        }

        private Text readTape() {
            clauseCount = 0;
            codeLength = 0;
            reachesAt = NONE;
            bearsAt = NONE;
            next = 0;
            fault = 0;
            faultAt = NONE;
            tape.cutIntoTokens();
            for (int i = 0; i <= MOST_BYTES && fault == 0 && kind() != Kind.LAST; i++) {
                readClause(openClause());
            }
            if (fault != 0 || !within(clauseCount, 0, MOST_CLAUSES) || !within(codeLength, 0, code.length)) {
                return null;
            }
            return new Text(Arrays.copyOf(clauses, 3 * clauseCount), Arrays.copyOf(code, codeLength), reachesAt, bearsAt);
        }

        private int kind() {
            return next < tape.tokenCount ? get(tape.kinds, next) : Kind.LAST;
        }

        private void fail(int number) {
            if (fault == 0) {
                fault = number;
                faultAt = get(tape.places, next);
            }
        }

        private void expect(int kind) {
            if (fault == 0 && kind() == kind) {
                next++;
            } else {
                fail(1);
            }
        }

        private int number(int low, int high) {
            int value = get(tape.values, next);
            if (kind() != Kind.NUMBER) {
                fail(1);
            } else if (!within(value, low, high)) {
                fail(2);
            } else if (fault == 0) {
                next++;
            }
            return value;
        }

        /** What CLAUSE its first TOKEN begins. */
        private int openClause() {
            int clause = kind();
            boolean again = clause == Kind.REACHES && reachesAt != NONE || clause == Kind.BEARS && bearsAt != NONE;
            if (!Kind.opensClause(clause)) {
                fail(1);
            } else if (again) {
                fail(4);
            } else if (clauseCount >= MOST_CLAUSES) {
                fail(6);
            } else {
                next++;
            }
            return clause;
        }

        private void readClause(int clause) {
            int a = 0;
            int b = 0;
            switch (clause) {
                case Kind.REACHES: case Kind.BEARS:
                    readLaw(clause);
                    break;
                case Kind.KIN:
                    a = number(0, 9);
                    expect(Kind.KEPT);
                    b = number(0, MOST_KEPT);
                    break;
                case Kind.DOWN:
                    a = number(0, MOST_KIN - 1);
                    expect(Kind.BY);
                    b = number(1, MOST_KEPT);
                    break;
                case Kind.SWAP:
                    a = number(0, MOST_KIN - 1);
                    expect(Kind.WITH);
                    b = number(0, MOST_KIN - 1);
                    break;
                case Kind.DINNER:
                    a = number(1, MOST_DINNERS);
                    break;
                default:
                    a = number(0, MOST_KIN - 1);
            }
            expect(Kind.STOP);
            put(clauses, 3 * clauseCount, clause);
            put(clauses, 3 * clauseCount + 1, a);
            put(clauses, 3 * clauseCount + 2, b);
            clauseCount++;
        }

        private void readLaw(int clause) {
            if (fault != 0) {
                return;
            }
            law = clause;
            if (law == Kind.REACHES) {
                reachesAt = codeLength;
            } else {
                bearsAt = codeLength;
            }
            readSum(0);
            emit(Kind.STOP, 0);
        }

        /** Returns where it stands, so that its number can be mended. */
        private int emit(int deed, int number) {
            put(code, codeLength, deed + 64 * number);
            codeLength = Math.min(codeLength + 1, code.length);
            return codeLength - 1;
        }

        private void leapToHere(int at) {
            put(code, at, get(code, at) % 64 + 64 * codeLength);
        }

        private void readSum(int depth) {
            readProduct(depth);
            for (int i = 0; i < MOST_BYTES && fault == 0 && (kind() == Kind.PLUS || kind() == Kind.MINUS); i++) {
                int sign = kind();
                next++;
                readProduct(depth);
                emit(sign, 0);
            }
        }

        private void readProduct(int depth) {
            readOne(depth);
            for (int i = 0; i < MOST_BYTES && fault == 0 && (kind() == Kind.TIMES || kind() == Kind.OVER); i++) {
                int sign = kind();
                next++;
                readOne(depth);
                emit(sign, 0);
            }
        }

        private void readOne(int depth) {
            int kind = kind();
            if (fault != 0) {
                return;
            }
            if (kind == Kind.NUMBER) {
                emit(Kind.NUMBER, number(0, MOST_NUMBER));
            } else if (Kind.isName(kind)) {
                readName(kind);
            } else if (!Kind.opensOne(kind)) {
                fail(1);
            } else if (depth >= MOST_OPEN) {
                fail(3);
            } else {
                next++;
                readOpen(kind, depth + 1);
            }
        }

        private void readName(int name) {
            if (name == Kind.BESIDE && law != Kind.REACHES || name == Kind.LOOSE && law != Kind.BEARS) {
                fail(5);
            } else {
                emit(name, 0);
                next++;
            }
        }

        private void readOpen(int kind, int depth) {
            if (kind == Kind.OPEN) {
                readSum(depth);
                expect(Kind.CLOSE);
            } else if (kind == Kind.IF) {
                readChoice(depth);
            } else {
                readOne(depth);
                emit(kind == Kind.MINUS ? Kind.NEGATE : kind, 0);
            }
        }

        private void readChoice(int depth) {
            readEither(depth);
            expect(Kind.THEN);
            int unlessSo = emit(Kind.THEN, 0);
            readSum(depth);
            expect(Kind.ELSE);
            int behind = emit(Kind.ELSE, 0);
            leapToHere(unlessSo);
            readSum(depth);
            expect(Kind.END);
            leapToHere(behind);
        }

        private void readEither(int depth) {
            readBoth(depth);
            for (int i = 0; i < MOST_BYTES && fault == 0 && kind() == Kind.OR; i++) {
                next++;
                readBoth(depth);
                emit(Kind.OR, 0);
            }
        }

        private void readBoth(int depth) {
            readAsk(depth);
            for (int i = 0; i < MOST_BYTES && fault == 0 && kind() == Kind.AND; i++) {
                next++;
                readAsk(depth);
                emit(Kind.AND, 0);
            }
        }

        private void readAsk(int depth) {
            if (fault != 0) {
                return;
            }
            if (kind() == Kind.NOT && depth >= MOST_OPEN) {
                fail(3);
            } else if (kind() == Kind.NOT) {
                next++;
                readAsk(depth + 1);
                emit(Kind.NOT, 0);
            } else {
                readSum(depth);
                int sign = kind();
                if (Kind.isComparison(sign)) {
                    expect(sign);
                    readSum(depth);
                    emit(sign, 0);
                } else {
                    fail(1);
                }
            }
        }
    }

    /** Asks the code of a law; what waits in it lies on a stack of its own. */
    private static final class Asker {
        private final int[] stack = new int[MOST_BYTES];

        private int reachesOf(Text law, Table table, int who) {
            if (law == null || law.reachesAt == NONE) {
                return get(table.temper, who);
            }
            return Math.max(0, Math.min(10, run(law.code, law.reachesAt, table, who)));
        }

        private int bearsOf(Text law, Table table, int who) {
            if (law == null || law.bearsAt == NONE) {
                return USUAL_BEARS;
            }
            return Math.max(0, Math.min(MOST_KEPT, run(law.code, law.bearsAt, table, who)));
        }

        private int run(int[] code, int from, Table table, int who) {
            int top = 0;
            int at = from;
            for (int i = 0; i < code.length && get(code, at) % 64 != Kind.STOP; i++) {
                int deed = get(code, at) % 64;
                int number = get(code, at) / 64;
                at++;
                if (deed == Kind.ELSE) {
                    at = number;
                } else if (deed == Kind.THEN) {
                    top--;
                    at = get(stack, top) == 0 ? number : at;
                } else if (takesNone(deed)) {
                    put(stack, top, deed == Kind.NUMBER ? number : named(deed, table, who));
                    top++;
                } else if (takesOne(deed)) {
                    put(stack, top - 1, ofOne(deed, get(stack, top - 1), table));
                } else {
                    top--;
                    put(stack, top - 1, ofTwo(deed, get(stack, top - 1), get(stack, top)));
                }
            }
            return get(stack, 0);
        }

        private static boolean takesNone(int deed) {
            return deed == Kind.NUMBER || Kind.isName(deed);
        }

        private static boolean takesOne(int deed) {
            return deed == Kind.ACROSS || deed == Kind.QUIVER || deed == Kind.NEGATE || deed == Kind.NOT;
        }

        private static int named(int name, Table table, int who) {
            switch (name) {
                case Kind.DINNER: return table.dinner;
                case Kind.WHO: return who;
                case Kind.TEMPER: return get(table.temper, who);
                case Kind.KEPT: return get(table.kept, who);
                case Kind.SEAT: return get(table.seatOf, who);
                case Kind.LOOSE: return table.lineCount;
                default:
                    return get(table.kept, table.whoFrom(who, 1)) + get(table.kept, table.whoFrom(who, table.count - 1));
            }
        }

        private static int ofOne(int deed, int value, Table table) {
            switch (deed) {
                case Kind.NOT: return value == 0 ? 1 : 0;
                case Kind.NEGATE: return -value;
                case Kind.ACROSS: return table.has(value) ? table.whoFrom(value, table.count / 2) : 0;
                default: return table.has(value) ? get(table.kept, value) : 0;
            }
        }

        private static int ofTwo(int deed, int left, int right) {
            switch (deed) {
                case Kind.PLUS: return capped((long) left + right);
                case Kind.MINUS: return capped((long) left - right);
                case Kind.TIMES: return capped((long) left * right);
                case Kind.OVER: return right == 0 ? 0 : left / right;
                case Kind.AND: return left & right;
                case Kind.OR: return left | right;
                case Kind.LESS: return left < right ? 1 : 0;
                case Kind.AT_MOST: return left <= right ? 1 : 0;
                case Kind.MORE: return left > right ? 1 : 0;
                case Kind.AT_LEAST: return left >= right ? 1 : 0;
                case Kind.LIKE: return left == right ? 1 : 0;
                default: return left != right ? 1 : 0;
            }
        }

        private static int capped(long value) {
            return (int) (value > MOST_SUM ? MOST_SUM : value < -MOST_SUM ? -MOST_SUM : value);
        }
    }

    /** SEATINGS, weighed by SPITE. */
    private static final class Rounds {
        private final int[] row = new int[MOST_KIN];
        private final int[] best = new int[MOST_KIN];
        private int least;
        private int most;
        private int asGood;
        private int mendLow;
        private int mendHigh;
        private int mendSpite;

        private void weighAll(House house) {
            int n = house.table.count;
            for (int i = 0; i < row.length; i++) {
                row[i] = i;
            }
            asGood = 0;
            most = 0;
            boolean more = true;
            for (int i = 0; i < 1000 && more; i++) {
                weigh(spiteOf(row, n, house.spites));
                more = turnToNextRow(n);
            }
        }

        private void weigh(int spite) {
            most = Math.max(most, spite);
            if (asGood == 0 || spite < least) {
                least = spite;
                asGood = 0;
                for (int i = 0; i < best.length; i++) {
                    best[i] = get(row, i);
                }
            }
            asGood += spite == least ? 1 : 0;
        }

        /** The next row by its order, with 0 where it is; false: there is none. */
        private boolean turnToNextRow(int n) {
            int rise = n - 2;
            while (rise >= 1 && get(row, rise) > get(row, rise + 1)) {
                rise--;
            }
            if (rise < 1) {
                return false;
            }
            int higher = n - 1;
            while (higher > rise && get(row, higher) < get(row, rise)) {
                higher--;
            }
            exchange(rise, higher);
            int high = n - 1;
            for (int low = rise + 1; low < high; low++) {
                exchange(low, high);
                high--;
            }
            return true;
        }

        private void exchange(int a, int b) {
            int there = get(row, a);
            put(row, a, get(row, b));
            put(row, b, there);
        }

        private static int spiteOf(int[] whoAt, int n, int[] spites) {
            int sum = 0;
            for (int seat = 0; seat < n && n > 1; seat++) {
                int other = seat + 1 < n ? seat + 1 : 0;
                sum += get(spites, get(whoAt, seat) * MOST_KIN + get(whoAt, other));
            }
            // Two are beside one another on both sides, but it is told of them once.
            return n == 2 ? sum / 2 : sum;
        }

        private int spiteAround(House house) {
            return spiteOf(house.table.whoAt, house.table.count, house.spites);
        }

        private void seekMend(House house) {
            int n = house.table.count;
            for (int i = 0; i < row.length; i++) {
                row[i] = get(house.table.whoAt, i);
            }
            mendLow = NONE;
            mendHigh = NONE;
            mendSpite = NONE;
            int lowest = spiteAround(house);
            for (int a = 0; a < n; a++) {
                for (int b = a + 1; b < n; b++) {
                    int spite = spiteSwapped(house, a, b);
                    if (spite < lowest) {
                        lowest = spite;
                        mendLow = a;
                        mendHigh = b;
                        mendSpite = spite;
                    }
                }
            }
        }

        private int spiteSwapped(House house, int a, int b) {
            int seatOfA = get(house.table.seatOf, a);
            int seatOfB = get(house.table.seatOf, b);
            exchange(seatOfA, seatOfB);
            int spite = spiteOf(row, house.table.count, house.spites);
            exchange(seatOfA, seatOfB);
            return spite;
        }
    }

    /** A FLIGHT through THE GARDEN. */
    private static final class Flier {
        private int cells;
        private int cell;
        private int turns;
        private int way;

        /** False: it flies for ever. */
        private boolean ends(int[] hedges, int from, int towards) {
            cells = 0;
            cell = from;
            turns = 0;
            way = towards;
            // Each CELL is come to by each WAY once at most, or it is for ever.
            for (int i = 0; i <= 4 * CELLS; i++) {
                if (!stepsOn() || meets(get(hedges, cell))) {
                    return true;
                }
            }
            return false;
        }

        private boolean stepsOn() {
            int down = cell / SIDE + (way == 0 ? -1 : way == 2 ? 1 : 0);
            int right = cell % SIDE + (way == 3 ? -1 : way == 1 ? 1 : 0);
            if (!within(down, 0, SIDE - 1) || !within(right, 0, SIDE - 1)) {
                return false;
            }
            cell = down * SIDE + right;
            cells++;
            return true;
        }

        /** Whether it sticks there. */
        private boolean meets(int hedge) {
            if (hedge == 1 || hedge == 2) {
                way = hedge == 1 ? way ^ 1 : 3 - way;
                turns++;
            }
            return hedge == 3;
        }

        private static int rimCell(int inwards, int i) {
            switch (inwards) {
                case 0: return CELLS - SIDE + i;
                case 1: return SIDE * i;
                case 2: return i;
                default: return SIDE * i + SIDE - 1;
            }
        }
    }

    /** ROWS, which of them fit, and what to ask. */
    private static final class Rows {
        /** Of each ROW: which number is at which place (15 bits), and above it how many of each (3 bits, as many set). */
        private final int[] marks = new int[ROWS];
        private final int[] fitting = new int[ROWS];
        private final int[] alike = new int[31];
        private int fitCount;

        private Rows() {
            for (int row = 0; row < marks.length; row++) {
                marks[row] = marked(marked(marked(0, row / 25, 0), row / 5 % 5, 1), row % 5, 2);
            }
        }

        private static int marked(int marks, int number, int place) {
            int before = marks >> (15 + 3 * number) & 7;
            return marks | 1 << (5 * place + number) | (2 * before + 1) << (15 + 3 * number);
        }

        private int replyOf(int row, int real) {
            int both = get(marks, row) & get(marks, real);
            int right = Integer.bitCount(both & 32767);
            int common = Integer.bitCount(both >> 15);
            return 10 * right + common - right;
        }

        private void sift(Pairs guesses) {
            fitCount = 0;
            for (int row = 0; row < ROWS; row++) {
                if (fitsAll(row, guesses)) {
                    put(fitting, fitCount, row);
                    fitCount++;
                }
            }
        }

        private boolean fitsAll(int real, Pairs guesses) {
            for (int i = 0; i < guesses.count; i++) {
                if (replyOf(get(guesses.first, i), real) != get(guesses.second, i)) {
                    return false;
                }
            }
            return true;
        }

        private int bestAsked() {
            int best = NONE;
            int fewest = ROWS + 1;
            boolean bestFits = false;
            int nextFit = 0;
            for (int row = 0; row < ROWS; row++) {
                boolean itFits = nextFit < fitCount && get(fitting, nextFit) == row;
                nextFit += itFits ? 1 : 0;
                int most = mostAlike(row, fewest);
                if (most < fewest || most == fewest && itFits && !bestFits) {
                    best = row;
                    fewest = most;
                    bestFits = itFits;
                }
            }
            return best;
        }

        /** Leaves off above the limit: such a ROW isn't asked anyhow. */
        private int mostAlike(int row, int limit) {
            Arrays.fill(alike, 0);
            int most = 0;
            for (int i = 0; i < fitCount && most <= limit; i++) {
                int reply = replyOf(row, get(fitting, i));
                int n = get(alike, reply) + 1;
                put(alike, reply, n);
                most = Math.max(most, n);
            }
            return most;
        }
    }
}
