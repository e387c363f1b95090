import java.util.function.IntPredicate;

/** Edges of promise 14, each method for one sentence of the document, which stands ahead of it. */
public final class EdgesOfYears {
    private static final Due DUE = new Due();
    private static final Edge EDGE = new Edge(DUE);

    public static void main(String[] args) {
        DUE.promise(14);
        yearsOfOthers();
        seeds();
        reached();
        reachedAtEdges();
        putDown();
        swapped();
        swappedAround();
        strapped();
        dinners();
        dinnersAtLast();
        none();
        oneStep();
        DUE.end("EdgesOfYears");
    }

    private static int next(int x) {
        return (int) ((x * 673L + 547) % 30971);
    }

    /** A SEED of which the first x is 3 by 12, by which nothing is done, and the second one is such. */
    private static int seedWith(IntPredicate second) {
        for (int seed = 1; seed < 10000; seed += 6) {
            if (second.test(next(seed * 2 + 421))) {
                return seed;
            }
        }
        DUE.is("a SEED is found", false, true);
        return 0;
    }

    private static QuiverKin table(int kin, int kept) {
        QuiverKin x = new QuiverKin();
        for (int i = 0; i < kin; i++) {
            x.kin(0, kept);
        }
        return Due.ruled(x, "reaches 0;bears 99;");
    }

    // Promise 14: "YEARS: DINNER. NONE for others."
    private static void yearsOfOthers() {
        EDGE.refused(6, "years(v, 1)", (x, v) -> x.years(v, 1), -1, Edge.outside(0, 9999));
        EDGE.refused(6, "years(0, v)", (x, v) -> x.years(0, v), -1, Edge.outside(1, 40));
        EDGE.refused(0, "years(9999, v) of none", (x, v) -> x.years(9999, v), -1, Edge.outside(1, 40));
        QuiverKin x = new QuiverKin();
        DUE.is("years(0, 1)", x.years(0, 1), 0);
        DUE.is("years(9999, 1)", x.years(9999, 1), 0);
        // x is 5 by 6 in the second year of SEED 0.
        DUE.is("years(0, 2)", x.years(0, 2), 1);
        DUE.is("years(9999, 40)", x.years(9999, 40), x.is(0));
    }

    // Promise 14 by Terms: "YEARS by a SEED: X is SEED (0 .. 9999) * 2 + 421; n times (1 .. 40): x is X, then X is anew (as in a draw)"
    private static void seeds() {
        QuiverKin x = new QuiverKin();
        for (int seed : new int[] {0, 1, 9998, 9999}) {
            int due = seed * 2 + 421;
            int dinners = x.is(0);
            int reckoned = due;
            for (int n = 1; n <= 40; n++) {
                // Nobody is there, so that nobody draws.
                dinners += reckoned % 6 >= 4 ? 1 : 0;
                reckoned = next(reckoned);
                if (n == 1 || n == 2 || n == 39 || n == 40) {
                    QuiverKin fresh = new QuiverKin();
                    fresh.years(seed, n);
                    DUE.is("X of SEED " + seed + " behind " + n, fresh.is(1), reckoned);
                }
            }
            DUE.is("DINNER of SEED " + seed, x.years(seed, 40), dinners);
            DUE.is("X of SEED " + seed, x.is(1), reckoned);
        }
        QuiverKin last = new QuiverKin();
        last.years(9999, 1);
        // 20419 * 673 + 547 is 13742534, and 443 times 30971 is 13720153.
        DUE.is("X of SEED 9999", last.is(1), 22381);
    }

    // Promise 14 by Terms: "x mod 6: 0 who is x / 6 mod how many REACHED"
    private static void reached() {
        for (int kin = 1; kin <= 6; kin++) {
            for (int who = 0; who < kin; who++) {
                int many = kin;
                int which = who;
                QuiverKin x = table(kin, 7);
                x.years(seedWith(d -> d % 6 == 0 && d / 6 % many == which), 2);
                for (int i = 0; i < kin; i++) {
                    DUE.is("KEPT of " + i + " of " + kin + ", " + who + " is REACHED", x.of(i, 1), i == who ? 8 : 7);
                }
                DUE.is("one STEP", x.about(3), 1);
            }
        }
    }

    // Promise 14 by Terms: "(each if it can be; else nothing)"
    private static void reachedAtEdges() {
        int seed = seedWith(d -> d % 6 == 0 && d / 6 % 2 == 1);
        QuiverKin x = table(2, 99);
        x.years(seed, 2);
        DUE.is("99 at most", x.of(1, 1), 99);
        x = table(2, 98);
        x.years(seed, 2);
        DUE.is("of 98", x.of(1, 1), 99);
        x.strap(1);
        x.down(1, 9);
        x.years(seed, 2);
        DUE.is("STRAPPED", x.of(1, 1), 90);
        DUE.is("not another one instead", x.of(0, 1), 98);
        DUE.is("a STEP though", x.about(3), 4);
    }

    // Promise 14 by Terms: "1 PUT DOWN by that 1 and x mod 3"
    private static void putDown() {
        // SEED 0: 421 is 1 by 6 and by 3; 70 mod 3 is 1.
        for (int kept : new int[] {0, 1, 2, 3, 99}) {
            QuiverKin x = table(3, kept);
            x.years(0, 1);
            DUE.is("PUT DOWN of " + kept, x.of(1, 1), kept < 2 ? kept : kept - 2);
            DUE.is("the one ahead", x.of(0, 1), kept);
            DUE.is("the next", x.of(2, 1), kept);
        }
        QuiverKin x = table(3, 2);
        x.strap(1);
        x.years(0, 1);
        DUE.is("STRAPPED as well", x.of(1, 1), 0);
        int last = seedWith(d -> d % 6 == 1 && d / 6 % 6 == 5);
        x = table(6, 2);
        x.years(last, 2);
        DUE.is("the last one", x.of(5, 1), 0);
        DUE.is("of all", x.is(2), 10);
    }

    // Promise 14 by Terms: "2 that one and the next by number (around) are SWAPPED, if x mod 4 is 2"
    private static void swapped() {
        for (int kin = 2; kin <= 6; kin++) {
            for (int who = 0; who < kin; who++) {
                int many = kin;
                int which = who;
                // An x that is 2 by 12 is even by 6, one that is 8 by 12 is odd: of an even number of KIN just each second one is come to.
                if (kin % 2 == 1 || who % 2 == 1) {
                    QuiverKin x = table(kin, 7);
                    x.years(seedWith(d -> d % 12 == 8 && d / 6 % many == which), 2);
                    sits(x, kin, -1);
                }
                if (kin % 2 == 1 || who % 2 == 0) {
                    QuiverKin x = table(kin, 7);
                    x.years(seedWith(d -> d % 12 == 2 && d / 6 % many == which), 2);
                    sits(x, kin, who);
                }
            }
        }
        QuiverKin alone = table(1, 7);
        alone.years(seedWith(d -> d % 12 == 2), 2);
        sits(alone, 1, -1);
    }

    /** All at their first SEATS, but for this one and the next (-1: none). */
    private static void sits(QuiverKin x, int kin, int swapped) {
        int other = swapped < 0 ? -1 : (swapped + 1) % kin;
        for (int i = 0; i < kin; i++) {
            int seat = i == swapped ? other : i == other ? swapped : i;
            DUE.is("SEAT of " + i + " of " + kin + ", SWAPPED is " + swapped, x.of(i, 2), seat);
            DUE.is("at(" + seat + ")", x.at(seat), i);
        }
    }

    // Promise 14 by Terms: "that one and the next by number (around) are SWAPPED"
    private static void swappedAround() {
        // By number, not by SEAT: 0 sits between 1 and 2, and 2 is SWAPPED with 0.
        QuiverKin x = table(3, 7);
        x.swap(0, 1);
        x.years(seedWith(d -> d % 12 == 2 && d / 6 % 3 == 2), 2);
        DUE.is("SEAT of 0", x.of(0, 2), 2);
        DUE.is("SEAT of 2", x.of(2, 2), 1);
        DUE.is("SEAT of 1", x.of(1, 2), 0);
    }

    // Promise 14 by Terms: "3 whether that one is STRAPPED, is other, if x mod 4 is 1"
    private static void strapped() {
        for (int kin = 1; kin <= 6; kin++) {
            for (int who = 0; who < kin; who++) {
                int many = kin;
                int which = who;
                QuiverKin x = table(kin, 7);
                // An x that is 9 by 12 is odd by 6, one that is 3 by 12 is even.
                if (kin % 2 == 1 || who % 2 == 1) {
                    int seed = seedWith(d -> d % 12 == 9 && d / 6 % many == which);
                    x.years(seed, 2);
                    DUE.is("STRAPPED, " + who + " of " + kin, x.is(3), 1 << who);
                    x.years(seed, 2);
                    DUE.is("and is other", x.is(3), 0);
                }
                if (kin % 2 == 1 || who % 2 == 0) {
                    x.years(seedWith(d -> d % 12 == 3 && d / 6 % many == which), 2);
                    DUE.is("x mod 4 is 3", x.is(3), 0);
                }
            }
        }
    }

    // Promise 14 by Terms: "4, 5 a DINNER (if it can pass)."
    private static void dinners() {
        for (int sort = 4; sort <= 5; sort++) {
            int which = sort;
            QuiverKin x = Due.ruled(Due.table(0, 9, 0, 0), "reaches 10;bears 5;");
            int seed = seedWith(d -> d % 6 == which);
            DUE.is("DINNER of " + sort, x.years(seed, 2), 1);
            DUE.is("who reached LOOSED", x.of(0, 1), 5);
            DUE.is("in whom it sticks", x.of(1, 1), 2);
            DUE.is("written down", x.book(-1, 0), 1);
            DUE.is("X behind two years and two draws", x.is(1), next(next(next(next(seed * 2 + 421)))));
        }
    }

    // Promise 14 by Terms: "(if it can pass)"
    private static void dinnersAtLast() {
        int seed = seedWith(d -> d % 6 == 5);
        QuiverKin x = Full.late(9998);
        DUE.is("at 9998", x.years(seed, 2), 9999);
        int kept = x.is(2);
        DUE.is("at 9999", x.years(seed, 2), 9999);
        DUE.is("nothing REACHED", x.is(2), kept);
        DUE.is("nothing drawn", x.is(1), next(next(seed * 2 + 421)));
        DUE.is("a STEP though", x.undo(), 29);
        DUE.is("at 9999 still", x.is(0), 9999);
        DUE.is("and the one ahead of it", x.undo(), 28);
        DUE.is("at 9998 again", x.is(0), 9998);
    }

    // Promise 14 by Terms: "What there are none of isn't."
    private static void none() {
        QuiverKin x = new QuiverKin();
        for (int seed : new int[] {seedWith(d -> d % 6 == 0), seedWith(d -> d % 6 == 1), seedWith(d -> d % 12 == 2), seedWith(d -> d % 12 == 9)}) {
            DUE.is("years of none by SEED " + seed, x.years(seed, 2), 0);
            DUE.is("X", x.is(1), next(next(seed * 2 + 421)));
        }
        DUE.is("KIN", x.about(0), 0);
        DUE.is("STRAPPED", x.is(3), 0);
        DUE.is("STEPS", x.about(3), 4);
        x.kin(0, 0);
        DUE.is("told behind it: STRAPPED", x.of(0, 3), 0);
        DUE.is("told behind it: KEPT", x.of(0, 1), 0);
        DUE.is("but a DINNER is", new QuiverKin().years(seedWith(d -> d % 6 == 4), 2), 1);
    }

    // Promise 14 by Terms: "It is one STEP: DINNER."
    private static void oneStep() {
        QuiverKin x = Due.table(9, 50, 9, 50, 9, 50, 9, 50, 9, 50, 9, 50);
        for (int i = 1; i <= 31; i++) {
            int dinner = x.years(300 * i, 40);
            DUE.is("DINNER", dinner, x.is(0));
            DUE.is("STEPS", x.about(3), Math.min(i, 30));
        }
        QuiverKin y = Due.table(9, 50, 9, 50, 9, 50, 9, 50, 9, 50, 9, 50);
        y.years(300, 40);
        int[] due = {y.is(0), y.is(1), y.is(2), y.is(3), y.at(0), y.at(5), y.book(-1, 0)};
        y.years(9999, 40);
        DUE.is("undo of 40 years", y.undo(), 1);
        int[] got = {y.is(0), y.is(1), y.is(2), y.is(3), y.at(0), y.at(5), y.book(-1, 0)};
        for (int i = 0; i < due.length; i++) {
            DUE.is("as ahead of it, the " + i + "th", got[i], due[i]);
        }
        y.undo();
        DUE.is("X at first", y.is(1), 421);
        DUE.is("KEPT at first", y.is(2), 300);
    }
}
