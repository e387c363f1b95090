import java.util.List;

/**
 * Edges of promises 1, 2, 8 to 12, 15 to 20 and 45 to 50, each method for one sentence of the document,
 * which stands ahead of it ("by Terms": it stands in Terms, not in the promise).
 */
public final class EdgesOfTable {
    private static final Due DUE = new Due();
    private static final Edge EDGE = new Edge(DUE);
    private static final int MIN = Integer.MIN_VALUE;
    private static final int MAX = Integer.MAX_VALUE;

    public static void main(String[] args) {
        emptyTable();
        imageOfNew();
        firstX();
        lastCall();
        kinOfOthers();
        theSeventh();
        lastSeat();
        notStrappedAtFirst();
        reachOfOthers();
        reachedAtMost();
        downOfOthers();
        downToNone();
        strapOfOthers();
        swapOfOthers();
        swapOfAll();
        dinnerOfOthers();
        dinnersBeyond();
        dinnerAtLast();
        bookAtLast();
        loosedInThem();
        drawnByTen();
        drawsAround();
        strappedDrawNothing();
        bySeats();
        reachesOfTen();
        reachedToNinetyNine();
        moreThanBears();
        half();
        acrossTheTable();
        sticksAtNinetyNine();
        comesBack();
        strappedAsAllOthers();
        undoOfNone();
        latestThirty();
        eachStep();
        ringOfSteps();
        bookAsAhead();
        toldSince();
        ofOthers();
        acrossAround();
        boundsOfLaws();
        atOthers();
        isOthers();
        keptOfAll();
        bookOfOthers();
        latestLines();
        manyLinesAtOnce();
        foretoldOfOthers();
        foretoldThatCanPass();
        foretoldDoesNothing();
        fullest();
        calm();
        ledgerOfOthers();
        imageStays();
        imageOfFullAndEmpty();
        butTheTape();
        aboutOthers();
        aboutFull();
        DUE.end("EdgesOfTable");
    }

    // ---- 1: a new object

    // Promise 1: "An empty table; THE IMAGE is this."
    // Promise 2 by Terms: "DINNER 0 .. 9999 (at first 0)"
    // Promise 7 by Terms: "THE TEXT (told; at first none) rules"
    private static void emptyTable() {
        DUE.promise(1);
        for (int what = 0; what < 8; what++) {
            DUE.is("about(" + what + ")", new QuiverKin().about(what), what == 2 ? -1 : 0);
        }
        QuiverKin x = new QuiverKin();
        DUE.is("DINNER", x.is(0), 0);
        DUE.is("KEPT of all", x.is(2), 0);
        DUE.is("STRAPPED", x.is(3), 0);
        DUE.is("at(0)", x.at(0), -1);
        DUE.is("of(0, 0)", x.of(0, 0), -1);
        DUE.is("book(-1, 0)", x.book(-1, 0), 0);
        DUE.is("NONE", QuiverKin.NONE, -1);
    }

    // Promise 1: "THE IMAGE is this"
    private static void imageOfNew() {
        DUE.promise(1);
        DUE.is("back() at once", new QuiverKin().back(), 0);
        List<String> untouched = Seen.held(new QuiverKin());
        QuiverKin x = new QuiverKin();
        Full.begin(x, 6);
        Full.goOn(x);
        DUE.is("back() at last", x.back(), 0);
        DUE.alike("behind back()", Seen.held(x), untouched);
    }

    // Promise 1 by Terms: "X: at first 421"
    private static void firstX() {
        DUE.promise(1);
        DUE.is("X", new QuiverKin().is(1), 421);
    }

    // Promise 1 by What it is: "An object is used for at most 512 calls after it has been made"
    private static void lastCall() {
        DUE.promise(1);
        QuiverKin x = Due.table(1, 0);
        for (int call = 2; call < 511; call++) {
            DUE.is("call " + call, x.reach(0), Math.min(call - 1, 99));
        }
        DUE.is("call 511", x.undo(), 29);
        DUE.is("call 512", x.of(0, 1), 99);
    }

    // ---- 2: kin

    // Promise 2: "ONE OF THE KIN: its number. NONE for others (0 .. 9; 0 .. 99), or if there are 6."
    // Promise 2 by Terms: "TEMPER 0 .. 9, KEPT 0 .. 99"
    private static void kinOfOthers() {
        DUE.promise(2);
        EDGE.refused(5, "kin(v, 0)", (x, v) -> x.kin(v, 0), -1, Edge.outside(0, 9));
        EDGE.refused(5, "kin(0, v)", (x, v) -> x.kin(0, v), -1, Edge.outside(0, 99));
        EDGE.refused(0, "kin(v, 99)", (x, v) -> x.kin(v, 99), -1, Edge.outside(0, 9));
        int[][] inside = {{0, 0}, {9, 99}, {0, 99}, {9, 0}, {1, 1}, {8, 98}};
        QuiverKin x = new QuiverKin();
        for (int i = 0; i < 6; i++) {
            DUE.is("kin, the " + i + "th", x.kin(inside[i][0], inside[i][1]), i);
            DUE.is("its TEMPER", x.of(i, 0), inside[i][0]);
            DUE.is("its KEPT", x.of(i, 1), inside[i][1]);
            DUE.is("how many", x.about(0), i + 1);
        }
    }

    // Promise 2: "or if there are 6"
    // Promise 2 by Terms: "THE KIN 0 .. 5 (told one by one)"
    private static void theSeventh() {
        DUE.promise(2);
        DUE.is("the 6th", Full.house(5).kin(9, 99), 5);
        EDGE.refused(6, "kin(v, 0), the 7th", (x, v) -> x.kin(v, 0), -1, 0, 9, 10, -1);
        EDGE.refused(6, "kin(0, v), the 7th", (x, v) -> x.kin(0, v), -1, 0, 99, MIN, MAX);
    }

    // Promise 2 by Terms: "SEATS around the table are as many as they (told one is at the SEAT of its number, the last one)"
    private static void lastSeat() {
        DUE.promise(2);
        QuiverKin x = new QuiverKin();
        for (int n = 0; n < 6; n++) {
            DUE.is("no SEAT yet", x.at(n), -1);
            x.kin(1, 1);
            DUE.is("SEAT of the one told", x.of(n, 2), n);
            DUE.is("who is there", x.at(n), n);
            x.swap(n, 0);
        }
        // Each one told was SWAPPED with 0, who so came one SEAT further on each time.
        int[] sit = {1, 2, 3, 4, 5, 0};
        for (int seat = 0; seat < 6; seat++) {
            DUE.is("at(" + seat + ")", x.at(seat), sit[seat]);
        }
    }

    // Promise 2 by Terms: "STRAPPED or not (at first not)"
    private static void notStrappedAtFirst() {
        DUE.promise(2);
        QuiverKin x = new QuiverKin();
        for (int n = 0; n < 6; n++) {
            x.kin(1, 1);
            DUE.is("the " + n + "th", x.of(n, 3), 0);
            x.strap(n);
        }
        x.back();
        for (int n = 0; n < 6; n++) {
            x.kin(1, 1);
        }
        DUE.is("told anew behind BACK", x.is(3), 0);
    }

    // ---- 8 to 11: by hand

    // Promise 8: "REACHED: KEPT then. NONE, if it is STRAPPED, and for others."
    private static void reachOfOthers() {
        DUE.promise(8);
        EDGE.refusedKin("reach(v)", (x, v) -> x.reach(v), -1);
        for (int kin = 0; kin < 6; kin += 5) {
            int strapped = kin;
            EDGE.refused(() -> Full.strapped(strapped), "reach(v), STRAPPED", (x, v) -> x.reach(v), -1, kin);
            QuiverKin x = Due.table(0, 0, 0, 10, 0, 20, 0, 30, 0, 40, 0, 50);
            DUE.is("reach(" + kin + ")", x.reach(kin), 10 * kin + 1);
            x.strap(kin);
            x.strap(kin);
            DUE.is("not STRAPPED any more", x.reach(kin), 10 * kin + 2);
        }
    }

    // Promise 8 by Terms: "REACHED: who isn't STRAPPED has KEPT one more (99 at most)."
    private static void reachedAtMost() {
        DUE.promise(8);
        QuiverKin x = Due.table(0, 97, 0, 99);
        DUE.is("at 97", x.reach(0), 98);
        DUE.is("at 98", x.reach(0), 99);
        DUE.is("at 99", x.reach(0), 99);
        DUE.is("told so", x.reach(1), 99);
        DUE.is("KEPT", x.of(0, 1), 99);
        DUE.is("KEPT of all", x.is(2), 198);
        DUE.is("STEPS", x.about(3), 4);
    }

    // Promise 9: "PUT DOWN: true. False, if it has not so many, and for others (1 .. 99)."
    private static void downOfOthers() {
        DUE.promise(9);
        EDGE.refusedKin("down(v, 1)", (x, v) -> Edge.bit(x.down(v, 1)), 0);
        EDGE.refused(() -> Due.table(0, 99), "down(0, v)", (x, v) -> Edge.bit(x.down(0, v)), 0, Edge.outside(1, 99));
        EDGE.refused(() -> Due.table(0, 0), "down(0, v)", (x, v) -> Edge.bit(x.down(0, v)), 0, 1, 99, 0, -1, MIN);
        EDGE.refused(() -> Due.table(0, 7, 0, 98), "down(0, v)", (x, v) -> Edge.bit(x.down(0, v)), 0, 8, 9, 98, 99);
        EDGE.refused(() -> Due.table(0, 7, 0, 98), "down(1, v)", (x, v) -> Edge.bit(x.down(1, v)), 0, 99);
    }

    // Promise 9 by Terms: "PUT DOWN: KEPT so many less."
    private static void downToNone() {
        DUE.promise(9);
        QuiverKin x = Due.table(0, 99, 0, 7, 0, 0, 0, 0, 0, 0, 0, 1);
        DUE.is("down(0, 98)", x.down(0, 98), true);
        DUE.is("KEPT", x.of(0, 1), 1);
        DUE.is("down(0, 1)", x.down(0, 1), true);
        DUE.is("KEPT", x.of(0, 1), 0);
        DUE.is("down(0, 1) of none", x.down(0, 1), false);
        DUE.is("down(1, 7), all of it", x.down(1, 7), true);
        DUE.is("KEPT", x.of(1, 1), 0);
        x.strap(5);
        DUE.is("down(5, 1), STRAPPED", x.down(5, 1), true);
        DUE.is("KEPT of all", x.is(2), 0);
        DUE.is("down(0, 99)", Due.table(0, 99).down(0, 99), true);
    }

    // Promise 10: "Whether it is STRAPPED, is other: true. False for others."
    private static void strapOfOthers() {
        DUE.promise(10);
        EDGE.refusedKin("strap(v)", (x, v) -> Edge.bit(x.strap(v)), 0);
        QuiverKin x = Due.table(0, 0, 0, 0, 0, 0, 0, 0, 0, 0, 0, 0);
        int bits = 0;
        for (int kin = 0; kin < 6; kin++) {
            DUE.is("strap(" + kin + ")", x.strap(kin), true);
            bits |= 1 << kin;
            DUE.is("STRAPPED", x.is(3), bits);
        }
        for (int kin = 5; kin >= 0; kin--) {
            DUE.is("strap(" + kin + ") again", x.strap(kin), true);
            bits &= ~(1 << kin);
            DUE.is("STRAPPED", x.is(3), bits);
        }
    }

    // Promise 11: "SWAPPED: true. False for others (unlike ones)."
    private static void swapOfOthers() {
        DUE.promise(11);
        EDGE.refusedKin("swap(v, 0)", (x, v) -> Edge.bit(x.swap(v, 0)), 0);
        EDGE.refusedKin("swap(0, v)", (x, v) -> Edge.bit(x.swap(0, v)), 0);
        EDGE.refusedKin("swap(v, v)", (x, v) -> Edge.bit(x.swap(v, v)), 0);
        EDGE.refused(6, "swap(v, v)", (x, v) -> Edge.bit(x.swap(v, v)), 0, 0, 1, 2, 3, 4, 5);
        EDGE.refused(1, "swap(v, 0) of one alone", (x, v) -> Edge.bit(x.swap(v, 0)), 0, 0, 1);
    }

    // Promise 11 by Terms: "SWAPPED: two change SEATS."
    private static void swapOfAll() {
        DUE.promise(11);
        for (int a = 0; a < 6; a++) {
            for (int b = 0; b < 6; b++) {
                if (a == b) {
                    continue;
                }
                QuiverKin x = Due.table(0, 0, 0, 0, 0, 0, 0, 0, 0, 0, 0, 0);
                DUE.is("swap(" + a + ", " + b + ")", x.swap(a, b), true);
                for (int seat = 0; seat < 6; seat++) {
                    int who = seat == a ? b : seat == b ? a : seat;
                    DUE.is("at(" + seat + ")", x.at(seat), who);
                    DUE.is("SEAT of " + who, x.of(who, 2), seat);
                }
            }
        }
    }

    // ---- 12: dinner

    // Promise 12: "DINNERS pass (1 .. 60): how many are LOOSED in them. NONE for others"
    private static void dinnerOfOthers() {
        DUE.promise(12);
        EDGE.refused(6, "dinner(v)", (x, v) -> x.dinner(v), -1, Edge.outside(1, 60));
        EDGE.refused(0, "dinner(v) of none", (x, v) -> x.dinner(v), -1, Edge.outside(1, 60));
        QuiverKin x = new QuiverKin();
        DUE.is("dinner(1)", x.dinner(1), 0);
        DUE.is("DINNER", x.is(0), 1);
        DUE.is("dinner(60)", x.dinner(60), 0);
        DUE.is("DINNER", x.is(0), 61);
    }

    // Promise 12: "or beyond 9999 (nothing is done then)"
    private static void dinnersBeyond() {
        DUE.promise(12);
        EDGE.refused(() -> Full.late(9960), "dinner(v) at 9960", (x, v) -> x.dinner(v), -1, 40, 41, 60);
        EDGE.refused(() -> Full.late(9998), "dinner(v) at 9998", (x, v) -> x.dinner(v), -1, 2, 3, 60);
        EDGE.refused(() -> Full.late(9999), "dinner(v) at 9999", (x, v) -> x.dinner(v), -1, 1, 2, 60);
        DUE.is("dinner(39) at 9960", Full.late(9960).dinner(39), 0);
        DUE.is("dinner(1) at 9998", Full.late(9998).dinner(1), 0);
    }

    // Promise 12 by Terms: "DINNER is one more (at 9999 none can pass)."
    private static void dinnerAtLast() {
        DUE.promise(12);
        QuiverKin x = Full.late(9998);
        x.dinner(1);
        DUE.is("DINNER", x.is(0), 9999);
        x.dinner(1);
        DUE.is("DINNER still", x.is(0), 9999);
        DUE.is("undo", x.undo(), 29);
        DUE.is("DINNER", x.is(0), 9998);
        DUE.is("dinner(1) anew", x.dinner(1), 0);
        DUE.is("DINNER", x.is(0), 9999);
    }

    // Promise 19 by Terms: "written down. DINNER is one more (at 9999 none can pass)."
    private static void bookAtLast() {
        DUE.promise(19);
        // In the last DINNER of all 5 LOOSES: ACROSS are 2, then 3, with 0, and it sticks in 4.
        QuiverKin x = Due.ruled(Due.table(0, 0, 0, 0, 0, 0, 0, 0, 0, 3, 0, 50), "reaches 0;bears if dinner=9998 and who=5 then 0 else 99 end;");
        for (int i = 0; i < 166; i++) {
            x.dinner(60);
        }
        DUE.is("dinner(38)", x.dinner(38), 0);
        DUE.is("dinner(1)", x.dinner(1), 1);
        int[] due = {9998, 5, 12, 4};
        for (int what = 0; what < 4; what++) {
            DUE.is("book(0, " + what + ")", x.book(0, what), due[what]);
        }
        DUE.is("ledger(5)", x.ledger(5), 1);
    }

    // Promise 12: "how many are LOOSED in them"
    private static void loosedInThem() {
        DUE.promise(12);
        QuiverKin x = Due.ruled(Due.table(0, 0, 0, 0, 0, 0, 0, 0, 0, 0, 0, 0), "reaches 10;bears 0;");
        DUE.is("all of six in each of 60", x.dinner(60), 360);
        DUE.is("lines of BOOK", x.book(-1, 0), 25);
        Due.ruled(x, "reaches 10;bears 99;");
        DUE.is("none in 60", x.dinner(60), 0);
        DUE.is("one in one", Due.table(0, 6).dinner(1), 1);
    }

    private static int next(int x) {
        return (int) ((x * 673L + 547) % 30971);
    }

    // Promise 12 by Terms: "below reaches (as it is then) KEPT is one more (99 at most)."
    private static void drawnByTen() {
        DUE.promise(12);
        // One draw a DINNER: in those where 0 and 9 are drawn, reaches is such that it is just below, or just not.
        int drawn = 421;
        boolean[] seen = new boolean[10];
        for (int dinner = 0; dinner < 60; dinner++) {
            int draw = drawn % 10;
            drawn = next(drawn);
            if (seen[draw]) {
                continue;
            }
            seen[draw] = true;
            for (int reaches = Math.max(0, draw - 1); reaches <= draw + 1; reaches++) {
                QuiverKin x = Due.ruled(Due.table(0, 50), "reaches if dinner=" + dinner + " then " + reaches + " else 0 end;bears 99;");
                x.dinner(dinner + 1);
                DUE.is("reaches " + reaches + ", drawn " + draw, x.of(0, 1), reaches == draw + 1 ? 51 : 50);
            }
        }
        DUE.is("0 was drawn", seen[0], true);
        DUE.is("9 was drawn", seen[9], true);
    }

    // Promise 12 by Terms: "a draw by 10 (X mod 10, X becoming (X * 673 + 547) mod 30971 behind it)"
    private static void drawsAround() {
        DUE.promise(12);
        QuiverKin x = Due.ruled(Due.table(0, 0, 0, 0, 0, 0, 0, 0, 0, 0, 0, 0), "reaches 0;bears 99;");
        int due = 421;
        // Some 60000 draws: X comes around to where it began.
        for (int i = 0; i < 166; i++) {
            x.dinner(60);
            for (int draw = 0; draw < 360; draw++) {
                due = next(due);
            }
            DUE.is("X behind " + (i + 1) * 360 + " draws", x.is(1), due);
        }
    }

    // Promise 12 by Terms: "who isn't STRAPPED (who is draws nothing)"
    private static void strappedDrawNothing() {
        DUE.promise(12);
        for (int strapped = 0; strapped < 64; strapped++) {
            QuiverKin x = Due.ruled(Due.table(0, 9, 0, 9, 0, 9, 0, 9, 0, 9, 0, 9), "reaches 10;bears 99;");
            int due = 421;
            for (int kin = 0; kin < 6; kin++) {
                if ((strapped >> kin & 1) == 1) {
                    x.strap(kin);
                } else {
                    due = next(due);
                }
            }
            x.dinner(1);
            DUE.is("X of STRAPPED " + strapped, x.is(1), due);
            for (int kin = 0; kin < 6; kin++) {
                DUE.is("KEPT of " + kin + " of STRAPPED " + strapped, x.of(kin, 1), 10 - (strapped >> kin & 1));
            }
            Due.ruled(x, "reaches 0;bears 0;");
            DUE.is("who is doesn't LOOSE, of STRAPPED " + strapped, x.dinner(1), 6 - Integer.bitCount(strapped));
        }
    }

    // Promise 12 by Terms: "A DINNER: by SEATS, from 0 on"
    private static void bySeats() {
        DUE.promise(12);
        // Each reaches if the one of the next lower number has 1: by SEATS 0 .. 5 all do, by SEATS turned about but 0 none does.
        String law = "reaches if who=0 or quiver(who-1)>0 then 10 else 0 end;bears 99;";
        QuiverKin x = Due.ruled(Due.table(0, 0, 0, 0, 0, 0, 0, 0, 0, 0, 0, 0), law);
        x.dinner(1);
        DUE.is("calm() by SEATS 0 .. 5", x.calm(), 0);
        x = Due.ruled(Due.table(0, 0, 0, 0, 0, 0, 0, 0, 0, 0, 0, 0), law);
        x.swap(0, 5);
        x.swap(1, 4);
        x.swap(2, 3);
        x.dinner(1);
        DUE.is("calm() by SEATS 5 .. 0", x.calm(), 62);
        // Who LOOSES first is written down first.
        Due.ruled(x, "reaches 0;bears if who=0 or who=5 then 0 else 99 end;");
        x.reach(5);
        DUE.is("dinner(1)", x.dinner(1), 2);
        DUE.is("at SEAT 0", x.book(0, 1), 5);
        DUE.is("at SEAT 5", x.book(1, 1), 0);
    }

    // Promise 12 by Terms: "reaches (of 10): 0 at least, 10 at most"
    private static void reachesOfTen() {
        DUE.promise(12);
        QuiverKin never = Due.ruled(Due.table(9, 0), "reaches 0-1;bears 99;");
        never.dinner(60);
        DUE.is("KEPT by -1", never.of(0, 1), 0);
        DUE.is("but drawn it has", never.is(1) == 421, false);
        QuiverKin always = Due.ruled(Due.table(0, 0), "reaches 9999;bears 99;");
        always.dinner(60);
        DUE.is("KEPT by 9999", always.of(0, 1), 60);
        always = Due.ruled(Due.table(0, 0), "reaches 10;bears 99;");
        always.dinner(60);
        DUE.is("KEPT by 10", always.of(0, 1), 60);
    }

    // Promise 12 by Terms: "KEPT is one more (99 at most). Then by SEATS"
    private static void reachedToNinetyNine() {
        DUE.promise(12);
        QuiverKin x = Due.ruled(Due.table(0, 97), "reaches 10;bears 99;");
        int drawn = 421;
        for (int due : new int[] {98, 99, 99}) {
            x.dinner(1);
            drawn = next(drawn);
            DUE.is("KEPT", x.of(0, 1), due);
            DUE.is("a draw at 99, too: X", x.is(1), drawn);
        }
    }

    // Promise 12 by Terms: "Then by SEATS, who isn't STRAPPED, KEPT more than bears (as it is then): LOOSES"
    private static void moreThanBears() {
        DUE.promise(12);
        for (int bears = 0; bears <= 99; bears += bears == 0 ? 1 : 49) {
            QuiverKin x = Due.ruled(Due.table(0, bears, 0, Math.min(99, bears + 1)), "reaches 0;bears " + bears + ";");
            DUE.is("bears " + bears, x.dinner(1), bears < 99 ? 1 : 0);
            DUE.is("as many", x.ledger(0), 0);
        }
        // 0 LOOSES first and it sticks in 1, who then has one more than 1 bears.
        QuiverKin x = Due.ruled(Due.table(0, 9, 0, 5), "reaches 0;");
        DUE.is("KEPT as it is then", x.dinner(1), 2);
        // The second bears less by then.
        x = Due.ruled(Due.table(0, 9, 0, 3), "reaches 0;bears 5-loose;");
        DUE.is("bears 4, has 4", x.dinner(1), 1);
        x = Due.ruled(Due.table(0, 9, 0, 4), "reaches 0;bears 5-loose;");
        DUE.is("bears 4, has 5", x.dinner(1), 2);
    }

    // Promise 12 by Terms: "LOOSES: KEPT is half (cut)"
    private static void half() {
        DUE.promise(12);
        for (int kept : new int[] {1, 2, 3, 98, 99}) {
            QuiverKin x = Due.ruled(Due.table(0, kept), "reaches 0;bears 0;");
            x.dinner(1);
            DUE.is("half of " + kept, x.of(0, 1), kept / 2);
        }
    }

    /** One of so many LOOSES, at a SEAT; the one of that number sits there. BOOK says through whom and in whom. */
    private static void loose(int kin, int who, int hasAny, int through, int stuck) {
        QuiverKin x = new QuiverKin();
        for (int i = 0; i < kin; i++) {
            x.kin(0, i == who ? 40 : i == hasAny ? 20 : 0);
        }
        Due.ruled(x, "reaches 0;bears 30;");
        DUE.is("dinner(1)", x.dinner(1), 1);
        String which = who + " of " + kin + ", " + hasAny + " has any: ";
        DUE.is(which + "through whom", x.book(0, 2), through);
        DUE.is(which + "in whom", x.book(0, 3), stuck);
        DUE.is(which + "KEPT of all", x.is(2), 20 + (hasAny >= 0 ? 20 : 0) + (stuck >= 0 ? 1 : 0));
    }

    // Promise 12 by Terms: "it goes from the SEAT ACROSS on to the next ones, around, through all with KEPT of 0, and sticks in the first who
    // has any"
    private static void acrossTheTable() {
        DUE.promise(12);
        for (int kin = 2; kin <= 6; kin++) {
            for (int who = 0; who < kin; who++) {
                int through = 0;
                for (int further = kin / 2; further < kin; further++) {
                    int there = (who + further) % kin;
                    loose(kin, who, there, through, there);
                    through |= 1 << there;
                }
                for (int further = 1; further < kin / 2; further++) {
                    loose(kin, who, (who + further) % kin, through, -1);
                }
                loose(kin, who, -1, through, -1);
            }
        }
    }

    // Promise 12 by Terms: "(KEPT of that one is one more, 99 at most)"
    private static void sticksAtNinetyNine() {
        DUE.promise(12);
        for (int kept : new int[] {1, 97, 98, 99}) {
            QuiverKin x = Due.ruled(Due.table(0, 40, 0, kept), "reaches 0;bears if who=0 then 0 else 99 end;");
            x.dinner(1);
            DUE.is("sticks in", x.book(0, 3), 1);
            DUE.is("KEPT behind " + kept, x.of(1, 1), Math.min(99, kept + 1));
        }
    }

    // Promise 12 by Terms: "or, come to the one who LOOSES (of one alone at once), in none"
    private static void comesBack() {
        DUE.promise(12);
        for (int kin = 1; kin <= 6; kin++) {
            QuiverKin x = new QuiverKin();
            for (int i = 0; i < kin; i++) {
                x.kin(0, i == 0 ? 9 : 0);
            }
            DUE.is("dinner(1) of " + kin, x.dinner(1), 1);
            DUE.is("in none of " + kin, x.book(0, 3), -1);
            DUE.is("KEPT of all of " + kin, x.is(2), 4);
        }
        QuiverKin alone = Due.table(0, 9);
        alone.dinner(1);
        DUE.is("through none", alone.book(0, 2), 0);
    }

    // Promise 12 by Terms: "STRAPPED ones are as all others there"
    private static void strappedAsAllOthers() {
        DUE.promise(12);
        QuiverKin x = Due.ruled(Due.table(0, 40, 0, 0, 0, 0, 0, 0), "reaches 0;bears 30;");
        x.strap(2);
        x.strap(3);
        x.dinner(1);
        DUE.is("through STRAPPED ones", x.book(0, 2), 12);
        x = Due.ruled(Due.table(0, 40, 0, 1, 0, 1, 0, 1), "reaches 0;bears 30;");
        x.strap(2);
        x.dinner(1);
        DUE.is("sticks in a STRAPPED one", x.book(0, 3), 2);
        DUE.is("KEPT of it", x.of(2, 1), 2);
    }

    // ---- 15: undo

    // Promise 15: "The latest STEP is taken back: how many can be yet. NONE: there is none."
    private static void undoOfNone() {
        DUE.promise(15);
        EDGE.refused(() -> Due.table(3, 4), "undo()", (x, v) -> x.undo(), -1, 0);
        QuiverKin x = Due.table(3, 4);
        x.reach(0);
        DUE.is("of one", x.undo(), 0);
        DUE.is("of none", x.undo(), -1);
        DUE.is("of none again", x.undo(), -1);
        DUE.is("about(3)", x.about(3), 0);
        DUE.is("KEPT", x.of(0, 1), 4);
        x.reach(0);
        DUE.is("of one behind that", x.undo(), 0);
    }

    // Promise 15 by Terms: "the latest 30 can be taken back, the latest first"
    private static void latestThirty() {
        DUE.promise(15);
        for (int steps : new int[] {29, 30, 31, 59, 60, 61, 90}) {
            QuiverKin x = Due.table(0, 0);
            for (int i = 1; i <= steps; i++) {
                x.reach(0);
                DUE.is("about(3) behind " + i, x.about(3), Math.min(i, 30));
            }
            int can = Math.min(steps, 30);
            for (int i = 1; i <= can; i++) {
                DUE.is("undo, the " + i + "th of " + steps, x.undo(), can - i);
                DUE.is("KEPT then", x.of(0, 1), steps - i);
            }
            DUE.is("none any more", x.undo(), -1);
            DUE.is("KEPT then", x.of(0, 1), steps - can);
        }
    }

    // Promise 15 by Terms: "STEPS: REACHED, PUT DOWN, STRAPPED or not, SWAPPED, a DINNER (each), YEARS (see V)"
    private static void eachStep() {
        DUE.promise(15);
        QuiverKin x = Due.table(9, 4, 0, 6, 2, 0);
        int[] drawn = new int[8];
        long[] others = new long[8];
        for (int step = 0; step < 8; step++) {
            drawn[step] = x.is(1);
            others[step] = mixedUp(x);
            switch (step) {
                case 0: x.reach(0); break;
                case 1: x.down(1, 6); break;
                case 2: x.strap(1); break;
                case 3: x.swap(0, 2); break;
                case 4: x.dinner(2); break;
                case 5: break;
                case 6: x.years(9999, 40); break;
                default: x.strap(1);
            }
            DUE.is("STEPS", x.about(3), step < 4 ? step + 1 : step < 6 ? 6 : step + 1);
        }
        for (int step = 7; step >= 0; step--) {
            DUE.is("undo", x.undo(), step);
            // The second of two DINNERS has no row of its own here.
            if (step != 5) {
                DUE.is("X", x.is(1), drawn[step]);
                DUE.is("all else", mixedUp(x), others[step]);
            }
        }
    }

    private static long mixedUp(QuiverKin x) {
        long sum = x.is(0) * 31L + x.is(3);
        for (int i = 0; i < 3; i++) {
            sum = (sum * 101 + x.of(i, 1)) * 7 + x.at(i);
        }
        return sum * 31 + x.book(-1, 0);
    }

    // Promise 15 by Terms: "the latest 30 can be taken back, the latest first (KEPT, SEATS"
    private static void ringOfSteps() {
        DUE.promise(15);
        QuiverKin x = Due.table(0, 0, 0, 0);
        for (int i = 0; i < 50; i++) {
            x.reach(0);
        }
        for (int i = 0; i < 20; i++) {
            x.undo();
        }
        for (int i = 0; i < 25; i++) {
            x.reach(1);
        }
        DUE.is("STEPS", x.about(3), 30);
        for (int i = 0; i < 25; i++) {
            x.undo();
        }
        DUE.is("KEPT of 1", x.of(1, 1), 0);
        DUE.is("KEPT of 0", x.of(0, 1), 30);
        for (int i = 0; i < 5; i++) {
            x.undo();
        }
        DUE.is("KEPT of 0", x.of(0, 1), 25);
        DUE.is("none any more", x.undo(), -1);
    }

    // Promise 15 by Terms: "who is STRAPPED, DINNER, X, BOOK are as ahead of it"
    private static void bookAsAhead() {
        DUE.promise(15);
        QuiverKin x = Due.ruled(Due.table(0, 1, 0, 1, 0, 1), "reaches 10;bears 0;");
        for (int i = 0; i < 9; i++) {
            x.dinner(1);
        }
        // 27 were LOOSED: the eldest two lines are gone. Three more push out three, and come back.
        DUE.is("eldest", x.book(0, 0), 0);
        DUE.is("who", x.book(0, 1), 2);
        x.dinner(1);
        DUE.is("eldest", x.book(0, 0), 1);
        DUE.is("who", x.book(0, 1), 2);
        x.undo();
        DUE.is("eldest as ahead of it", x.book(0, 0), 0);
        DUE.is("who as ahead of it", x.book(0, 1), 2);
        DUE.is("latest as ahead of it", x.book(24, 0), 8);
        x.undo();
        DUE.is("24 lines ahead of that", x.book(-1, 0), 24);
        DUE.is("the 25th is none", x.book(24, 0), -2);
        DUE.is("eldest of all", x.book(0, 1), 0);
    }

    // Promise 15 by Terms: "KIN told since are as told"
    private static void toldSince() {
        DUE.promise(15);
        QuiverKin x = Due.table(9, 40);
        x.reach(0);
        for (int i = 1; i < 6; i++) {
            x.kin(i, 10 * i);
        }
        for (int i = 1; i < 6; i++) {
            x.reach(i);
            x.strap(i);
            x.swap(i, i - 1);
        }
        x.dinner(3);
        x.years(5, 40);
        for (int i = 0; i < 20; i++) {
            x.undo();
        }
        DUE.is("none any more", x.about(3), 0);
        DUE.is("KIN", x.about(0), 6);
        DUE.is("KEPT of 0", x.of(0, 1), 40);
        for (int i = 1; i < 6; i++) {
            DUE.is("TEMPER of " + i, x.of(i, 0), i);
            DUE.is("KEPT of " + i, x.of(i, 1), 10 * i);
            DUE.is("SEAT of " + i, x.of(i, 2), i);
            DUE.is("STRAPPED, " + i, x.of(i, 3), 0);
            DUE.is("at " + i, x.at(i), i);
        }
        x = new QuiverKin();
        x.dinner(1);
        x.kin(1, 99);
        DUE.is("told at an empty table since", x.undo(), 0);
        DUE.is("KEPT", x.of(0, 1), 99);
    }

    // ---- 16 to 20: what is so

    // Promise 16: "Of ONE OF THE KIN: 0 TEMPER, 1 KEPT, 2 SEAT, 3 whether it is STRAPPED (1, 0), 4 reaches, 5 bears now, 6 who is ACROSS.
    // NONE for others."
    private static void ofOthers() {
        DUE.promise(16);
        for (int what = 0; what < 7; what++) {
            int asked = what;
            EDGE.refusedKin("of(v, " + what + ")", (x, v) -> x.of(v, asked), -1);
        }
        EDGE.refused(6, "of(5, v)", (x, v) -> x.of(5, v), -1, Edge.outside(0, 6));
        QuiverKin x = Due.table(9, 99, 0, 0);
        x.strap(0);
        int[] first = {9, 99, 0, 1, 9, 5, 1};
        int[] last = {0, 0, 1, 0, 0, 5, 0};
        for (int what = 0; what < 7; what++) {
            DUE.is("of(0, " + what + ")", x.of(0, what), first[what]);
            DUE.is("of(1, " + what + ")", x.of(1, what), last[what]);
        }
    }

    // Promise 16 by Terms: "ACROSS is the SEAT half of all SEATS (cut) further on, around."
    private static void acrossAround() {
        DUE.promise(16);
        for (int n = 1; n <= 6; n++) {
            QuiverKin x = new QuiverKin();
            for (int i = 0; i < n; i++) {
                x.kin(0, 0);
            }
            x.swap(0, n - 1);
            for (int seat = 0; seat < n; seat++) {
                DUE.is("ACROSS SEAT " + seat + " of " + n, x.of(x.at(seat), 6), x.at((seat + n / 2) % n));
            }
        }
        QuiverKin three = Due.table(0, 0, 0, 0, 0, 0);
        DUE.is("half of 3 is 1", three.of(0, 6), 1);
        DUE.is("around", three.of(2, 6), 0);
    }

    private static void bounds(String sum, int reaches, int bears) {
        QuiverKin x = Due.ruled(Due.table(4, 4), "reaches " + sum + ";bears " + sum + ";");
        DUE.is("reaches by " + sum, x.of(0, 4), reaches);
        DUE.is("bears by " + sum, x.of(0, 5), bears);
    }

    // Promise 16 by Terms: "reaches (of 10): 0 at least, 10 at most; without: TEMPER. bears: 0 at least, 99 at most; without: 5."
    private static void boundsOfLaws() {
        DUE.promise(16);
        bounds("0-9999*9999", 0, 0);
        bounds("-1", 0, 0);
        bounds("0", 0, 0);
        bounds("1", 1, 1);
        bounds("9", 9, 9);
        bounds("10", 10, 10);
        bounds("11", 10, 11);
        bounds("98", 10, 98);
        bounds("99", 10, 99);
        bounds("100", 10, 99);
        bounds("9999*9999", 10, 99);
        for (int temper = 0; temper <= 9; temper += 9) {
            QuiverKin x = Due.table(temper, 99);
            DUE.is("reaches without THE TEXT", x.of(0, 4), temper);
            DUE.is("bears without THE TEXT", x.of(0, 5), 5);
            Due.ruled(x, "bears 7;");
            DUE.is("reaches without reaches", x.of(0, 4), temper);
            DUE.is("bears with bears", x.of(0, 5), 7);
            Due.ruled(x, "reaches 7;");
            DUE.is("reaches with reaches", x.of(0, 4), 7);
            DUE.is("bears without bears", x.of(0, 5), 5);
            Due.ruled(x, "");
            DUE.is("reaches by a TEXT without any", x.of(0, 4), temper);
            DUE.is("bears by a TEXT without any", x.of(0, 5), 5);
        }
    }

    // Promise 17: "Who is at a SEAT. NONE for others."
    private static void atOthers() {
        DUE.promise(17);
        EDGE.refusedKin("at(v)", (x, v) -> x.at(v), -1);
        QuiverKin x = Due.table(0, 0, 0, 0, 0, 0, 0, 0, 0, 0, 0, 0);
        DUE.is("at(0)", x.at(0), 0);
        DUE.is("at(5)", x.at(5), 5);
        DUE.is("at(0) of one alone", Due.table(0, 0).at(0), 0);
        DUE.is("at(1) of one alone", Due.table(0, 0).at(1), -1);
    }

    // Promise 18: "0 DINNER, 1 X, 2 KEPT of all, 3 STRAPPED (bits). -2 for others."
    private static void isOthers() {
        DUE.promise(18);
        EDGE.refused(6, "is(v)", (x, v) -> x.is(v), -2, Edge.outside(0, 3));
        EDGE.refused(0, "is(v)", (x, v) -> x.is(v), -2, Edge.outside(0, 3));
        QuiverKin x = Full.late(9999);
        DUE.is("DINNER", x.is(0), 9999);
    }

    // Promise 18: "2 KEPT of all, 3 STRAPPED (bits)"
    private static void keptOfAll() {
        DUE.promise(18);
        DUE.is("of none", new QuiverKin().is(2), 0);
        DUE.is("STRAPPED of none", new QuiverKin().is(3), 0);
        DUE.is("of one with 0", Due.table(0, 0).is(2), 0);
        QuiverKin x = Due.table(0, 99, 0, 99, 0, 99, 0, 99, 0, 99, 0, 99);
        DUE.is("of all with 99", x.is(2), 594);
        for (int kin = 0; kin < 6; kin++) {
            x.strap(kin);
        }
        DUE.is("all STRAPPED", x.is(3), 63);
    }

    // Promise 19: "BOOK: how many (i NONE); the i-th, from the eldest on: 0 DINNER, 1 who, 2 through whom (bits), 3 in whom it sticks (NONE: none).
    // -2 if there is none such, and for others."
    private static void bookOfOthers() {
        DUE.promise(19);
        EDGE.refused(() -> Due.table(0, 9), "book(v, 0) of none", (x, v) -> x.book(v, 0), -2, 0, 1, 24, -2, MIN, MAX);
        QuiverKin one = Due.table(0, 9, 0, 0);
        one.dinner(1);
        DUE.is("one line", one.book(-1, 0), 1);
        int[] due = {0, 0, 2, -1};
        for (int what = 0; what < 4; what++) {
            DUE.is("book(0, " + what + ")", one.book(0, what), due[what]);
            DUE.is("book(1, " + what + ")", one.book(1, what), -2);
        }
        EDGE.refused(6, "book(0, v)", (x, v) -> x.book(0, v), -2, Edge.outside(0, 3));
        EDGE.refused(() -> loosedOften(40), "book(v, 0)", (x, v) -> x.book(v, 0), -2, Edge.outside(-1, 24));
        EDGE.refused(() -> loosedOften(40), "book(24, v)", (x, v) -> x.book(24, v), -2, Edge.outside(0, 3));
        for (int what : new int[] {0, 3, 4, -1, MIN, MAX}) {
            DUE.is("book(-1, " + what + ")", one.book(-1, what), 1);
        }
    }

    /** One alone LOOSES in each DINNER. */
    private static QuiverKin loosedOften(int dinners) {
        QuiverKin x = Due.ruled(Due.table(0, 9), "reaches 10;bears 0;");
        x.dinner(dinners);
        return x;
    }

    // Promise 19 by Terms: "BOOK (the latest 25): DINNER, who, through whom (bits), in whom it sticks."
    private static void latestLines() {
        DUE.promise(19);
        for (int loosed : new int[] {1, 24, 25, 26, 27, 50, 51, 60}) {
            QuiverKin x = loosedOften(loosed);
            int lines = Math.min(loosed, 25);
            DUE.is("how many of " + loosed, x.book(-1, 0), lines);
            for (int i = 0; i < lines; i++) {
                DUE.is("the " + i + "th of " + loosed, x.book(i, 0), loosed - lines + i);
            }
            DUE.is("none such", x.book(lines, 0), -2);
        }
    }

    // Promise 19 by Terms: "written down. DINNER is one more"
    private static void manyLinesAtOnce() {
        DUE.promise(19);
        QuiverKin x = Due.ruled(Due.table(0, 9, 0, 9, 0, 9, 0, 9, 0, 9, 0, 9), "reaches 10;bears 0;");
        x.dinner(4);
        DUE.is("24 lines", x.book(-1, 0), 24);
        x.dinner(1);
        DUE.is("25 lines", x.book(-1, 0), 25);
        for (int i = 0; i < 25; i++) {
            DUE.is("DINNER of the " + i + "th", x.book(i, 0), (i + 5) / 6);
            DUE.is("who of the " + i + "th", x.book(i, 1), (i + 5) % 6);
            DUE.is("through whom", x.book(i, 2), 0);
            DUE.is("in whom it sticks", x.book(i, 3), ((i + 5) % 6 + 3) % 6);
        }
    }

    // Promise 20: "FORETOLD: KEPT. NONE for others."
    private static void foretoldOfOthers() {
        DUE.promise(20);
        EDGE.refusedKin("foretold(1, v)", (x, v) -> x.foretold(1, v), -1);
        EDGE.refusedKin("foretold(60, v)", (x, v) -> x.foretold(60, v), -1);
        EDGE.refused(6, "foretold(v, 0)", (x, v) -> x.foretold(v, 0), -1, Edge.outside(1, 60));
        QuiverKin x = Due.ruled(Due.table(0, 0, 0, 0, 0, 0, 0, 0, 0, 0, 0, 0), "reaches 10*(who/5);bears 99;");
        DUE.is("foretold(1, 5)", x.foretold(1, 5), 1);
        DUE.is("foretold(60, 5)", x.foretold(60, 5), 60);
        DUE.is("foretold(60, 0)", x.foretold(60, 0), 0);
        // 1, 1 and 9 are drawn first.
        x = Due.table(2, 0, 1, 0, 9, 0);
        DUE.is("by TEMPER 2", x.foretold(1, 0), 1);
        DUE.is("by TEMPER 1", x.foretold(1, 1), 0);
        DUE.is("by TEMPER 9", x.foretold(1, 2), 0);
        // As all is now: BOOK, X and who is STRAPPED, too, of one that is no longer at its first DINNER.
        x = Full.house(6);
        x.dinner(7);
        int[] foretold = new int[6];
        for (int kin = 0; kin < 6; kin++) {
            foretold[kin] = x.foretold(9, kin);
        }
        x.dinner(9);
        for (int kin = 0; kin < 6; kin++) {
            DUE.is("behind nine more, KEPT of " + kin, foretold[kin], x.of(kin, 1));
        }
        // Nothing is left of one for whom it was foretold before.
        x = Due.table(9, 5);
        x.foretold(60, 0);
        x.back();
        x.kin(0, 5);
        DUE.is("another one, of TEMPER 0", x.foretold(60, 0), 5);
    }

    // Promise 20 by Terms: "FORETOLD behind n DINNERS (1 .. 60; those that can pass)"
    private static void foretoldThatCanPass() {
        DUE.promise(20);
        for (int late : new int[] {9960, 9997, 9998, 9999}) {
            QuiverKin x = Full.late(late);
            int kept = x.of(1, 1);
            for (int n : new int[] {1, 2, 3, 38, 39, 40, 60}) {
                DUE.is("foretold(" + n + ", 1) at " + late, x.foretold(n, 1), kept + Math.min(n, 9999 - late));
            }
        }
    }

    // Promise 20 by Terms: "nothing else being done"
    private static void foretoldDoesNothing() {
        DUE.promise(20);
        List<String> untouched = Seen.all(Full.house(6));
        QuiverKin x = Full.house(6);
        for (int n = 1; n <= 60; n += 59) {
            for (int kin = 0; kin < 6; kin++) {
                x.foretold(n, kin);
            }
        }
        DUE.alike("behind foretold", Seen.all(x), untouched);
    }

    // ---- 45 to 50

    // Promise 45: "FULLEST. NONE: none."
    // Promise 45 by Terms: "FULLEST: who has KEPT most (above 0); of like ones the lowest; none."
    private static void fullest() {
        DUE.promise(45);
        DUE.is("of none", new QuiverKin().fullest(), -1);
        DUE.is("with 0", Due.table(0, 0).fullest(), -1);
        DUE.is("all with 0", Due.table(0, 0, 0, 0, 0, 0, 0, 0, 0, 0, 0, 0).fullest(), -1);
        DUE.is("the last with 1", Due.table(0, 0, 0, 0, 0, 0, 0, 0, 0, 0, 0, 1).fullest(), 5);
        DUE.is("the first with 1", Due.table(0, 1).fullest(), 0);
        DUE.is("all with 99", Due.table(0, 99, 0, 99, 0, 99, 0, 99, 0, 99, 0, 99).fullest(), 0);
        DUE.is("two with most", Due.table(0, 98, 0, 99, 0, 0, 0, 99).fullest(), 1);
        QuiverKin strapped = Due.table(0, 1, 0, 2);
        strapped.strap(1);
        DUE.is("STRAPPED", strapped.fullest(), 1);
        strapped.swap(0, 1);
        strapped.down(1, 1);
        DUE.is("of like ones the lowest number, not SEAT", strapped.fullest(), 0);
    }

    // Promise 46: "CALM (bits)."
    // Promise 46 by Terms: "CALM: who has KEPT 0 (bits)."
    private static void calm() {
        DUE.promise(46);
        DUE.is("of none", new QuiverKin().calm(), 0);
        DUE.is("one with 0", Due.table(0, 0).calm(), 1);
        DUE.is("one with 1", Due.table(0, 1).calm(), 0);
        DUE.is("all with 0", Due.table(0, 0, 0, 0, 0, 0, 0, 0, 0, 0, 0, 0).calm(), 63);
        DUE.is("all with 99", Due.table(0, 99, 0, 99, 0, 99, 0, 99, 0, 99, 0, 99).calm(), 0);
        DUE.is("the last with 0", Due.table(0, 1, 0, 1, 0, 1, 0, 1, 0, 1, 0, 0).calm(), 32);
        DUE.is("the last with 1", Due.table(0, 0, 0, 0, 0, 0, 0, 0, 0, 0, 0, 1).calm(), 31);
        QuiverKin x = Due.table(0, 0, 0, 1, 0, 0);
        x.strap(0);
        x.strap(1);
        DUE.is("STRAPPED ones, too", x.calm(), 5);
    }

    // Promise 47: "BY THE BOOK. -2 for others."
    // Promise 47 by Terms: "BY THE BOOK: how often one LOOSED (NONE: all)."
    private static void ledgerOfOthers() {
        DUE.promise(47);
        EDGE.refused(6, "ledger(v)", (x, v) -> x.ledger(v), -2, Edge.outside(-1, 5));
        EDGE.refused(3, "ledger(v) of 3", (x, v) -> x.ledger(v), -2, Edge.outside(-1, 2));
        EDGE.refused(0, "ledger(v) of none", (x, v) -> x.ledger(v), -2, Edge.outside(-1, -1));
        DUE.is("all of none", new QuiverKin().ledger(-1), 0);
        DUE.is("24", loosedOften(24).ledger(0), 24);
        DUE.is("25", loosedOften(25).ledger(0), 25);
        DUE.is("the latest 25", loosedOften(26).ledger(0), 25);
        DUE.is("all, the latest 25", loosedOften(26).ledger(-1), 25);
        QuiverKin x = Due.table(0, 0, 0, 0, 0, 0, 0, 0, 0, 0, 0, 9);
        x.dinner(1);
        for (int kin = 0; kin < 6; kin++) {
            DUE.is("ledger(" + kin + ")", x.ledger(kin), kin == 5 ? 1 : 0);
        }
        DUE.is("ledger(-1)", x.ledger(-1), 1);
    }

    // Promise 48: "THE IMAGE is as all is now: DINNER."
    // Promise 49: "BACK to THE IMAGE (it stays): DINNER."
    private static void imageStays() {
        DUE.promise(49);
        QuiverKin x = Full.late(9999);
        DUE.is("image() at 9999", x.image(), 9999);
        x.undo();
        DUE.is("back()", x.back(), 9999);
        DUE.is("back() at once again", x.back(), 9999);
        x.undo();
        x.undo();
        DUE.is("it stays", x.back(), 9999);
        DUE.is("STEPS", x.about(3), 30);
        DUE.is("undo", x.undo(), 29);
        DUE.is("image() anew", x.image(), 9998);
        x.dinner(1);
        DUE.is("back() to the new one", x.back(), 9998);
        DUE.is("image() of an empty table", new QuiverKin().image(), 0);
    }

    // Promise 48 by Terms: "AN IMAGE: all as it is"
    // Promise 49 by Terms: "BACK: all is so again."
    private static void imageOfFullAndEmpty() {
        DUE.promise(48);
        List<String> full = Seen.held(imaged(6));
        List<String> empty = Seen.held(new QuiverKin());
        QuiverKin x = imaged(6);
        x.dinner(60);
        x.years(3, 40);
        x.reach(5);
        x.hedge(3, 3);
        x.spite(4, 5, 99);
        x.gain(0, 0, 99, 99);
        x.guess(-1, 0, 0);
        x.saying(-1, 0);
        x.told(-1, 0);
        for (int i = 0; i < 8; i++) {
            x.guess(124, 0, 0);
            x.saying(99, 99);
            x.told(5, 10);
        }
        Due.text(x, "bears 99;");
        Due.ruled(x, "reaches 1;");
        x.back();
        DUE.alike("a full table behind BACK", Seen.held(x), full);
        x = new QuiverKin();
        x.image();
        Full.begin(x, 6);
        Full.goOn(x);
        x.back();
        DUE.alike("an empty table behind BACK", Seen.held(x), empty);
        // All 30 STEPS of an image can be taken back, whatever was done since.
        x = Due.table(0, 0);
        for (int i = 0; i < 40; i++) {
            x.reach(0);
        }
        x.image();
        for (int i = 0; i < 40; i++) {
            x.reach(0);
        }
        x.back();
        for (int i = 29; i >= 0; i--) {
            DUE.is("undo behind BACK", x.undo(), i);
        }
        DUE.is("KEPT", x.of(0, 1), 10);
    }

    private static QuiverKin imaged(int kin) {
        QuiverKin x = Full.house(kin);
        x.image();
        return x;
    }

    // Promise 48 by Terms: "but the tape and the latest FAULT"
    private static void butTheTape() {
        DUE.promise(48);
        QuiverKin x = new QuiverKin();
        Due.tape(x, "kin 1 kept 1;");
        x.image();
        x.end(3);
        x.back();
        DUE.is("the tape stays as it is", x.about(7), 3);
        Due.text(x, "strap 6;");
        x.back();
        DUE.is("the FAULT stays as it is", x.fault(0), 2);
        DUE.is("its place stays", x.fault(1), 6);
        Due.tape(x, "strap 0;");
        x.back();
        DUE.is("the tape can be read yet", x.text(), 0);
        DUE.is("without FAULT", x.fault(0), 0);
        x.back();
        DUE.is("without FAULT still", x.fault(0), 0);
        DUE.is("but without TEXT", x.about(1), 0);
    }

    // Promise 50: "0 KIN, 1 TEXTS, 2 THE TEXT (NONE), 3 STEPS that can be taken back, 4 GUESSES, 5 SAYINGS, 6 TOLD, 7 bytes of the tape.
    // -2 for others."
    private static void aboutOthers() {
        DUE.promise(50);
        EDGE.refused(6, "about(v)", (x, v) -> x.about(v), -2, Edge.outside(0, 7));
        EDGE.refused(0, "about(v)", (x, v) -> x.about(v), -2, Edge.outside(0, 7));
        QuiverKin x = new QuiverKin();
        DUE.is("THE TEXT is none", x.about(2), -1);
        Due.ruled(x, "");
        DUE.is("THE TEXT is 0", x.about(2), 0);
        x.by(-1);
        DUE.is("THE TEXT is none again", x.about(2), -1);
    }

    // Promise 50: "3 STEPS that can be taken back, 4 GUESSES, 5 SAYINGS, 6 TOLD, 7 bytes of the tape"
    private static void aboutFull() {
        DUE.promise(50);
        QuiverKin x = Due.table(1, 1, 1, 1, 1, 1, 1, 1, 1, 1, 1, 1);
        for (int i = 0; i < 40; i++) {
            x.reach(0);
            x.guess(0, 0, 0);
            x.saying(1, 1);
            x.told(5, 1);
            Due.ruled(x, "");
            x.kin(1, 1);
        }
        x.by(3);
        for (int i = 0; i < 16; i++) {
            x.feed(0, 0, 0, 0, 0);
        }
        int[] due = {6, 4, 3, 30, 6, 8, 8, 300};
        for (int what = 0; what < 8; what++) {
            DUE.is("about(" + what + ")", x.about(what), due[what]);
        }
    }
}
