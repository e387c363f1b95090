import java.util.List;

/**
 * Edges of promises 21 to 42, each method for one sentence of the document, which stands ahead of it
 * ("by Terms": it stands in Terms, not in the promise).
 */
public final class EdgesOfThought {
    private static final Due DUE = new Due();
    private static final Edge EDGE = new Edge(DUE);
    private static final int MIN = Integer.MIN_VALUE;
    private static final int MAX = Integer.MAX_VALUE;

    public static void main(String[] args) {
        asksChangeNothing();
        tellingIsNoStep();
        spiteOfOthers();
        spiteEitherWay();
        roundsOfFew();
        roundsAtMost();
        lowestRow();
        seatingOfOthers();
        seatingsWithoutKinOne();
        spiteAsNow();
        mendOfOthers();
        mendLessThanNow();
        mendOfLikeOnes();
        hedgeOfOthers();
        hedgesTurn();
        flightOfOthers();
        flightWithoutCells();
        flightOnceAround();
        longFlight();
        ownHedge();
        comesOfOthers();
        rim();
        comesOfLikeOnes();
        guessOfOthers();
        sixGuesses();
        answerOfOthers();
        rowsByFive();
        answersAtEdges();
        fitsNoneOneAll();
        fitOfOthers();
        askOfFew();
        askOfLikeOnes();
        gainOfOthers();
        restsAtEdges();
        mixedStrictlyBetween();
        mixedLowest();
        sayingOfOthers();
        eightSayings();
        leastOfOthers();
        leastAtEdges();
        leastOfLikeOnes();
        nearOfOthers();
        nearAtEnds();
        nearFarthest();
        gameOfOthers();
        biteOfOthers();
        biteWithoutAny();
        biteLowest();
        DUE.end("EdgesOfThought");
    }

    // Promise 22 by Terms: "All that follows changes nothing but what is told."
    private static void asksChangeNothing() {
        DUE.promise(22);
        List<String> untouched = Seen.all(Full.house(6));
        QuiverKin x = Full.house(6);
        x.foretold(60, 5);
        x.round(true);
        x.round(false);
        x.seating(5);
        x.seatings();
        x.spiteNow();
        x.mend(2);
        x.flight(0, 1, 0);
        x.comes(35, 1);
        x.answer(124, 1);
        x.fits();
        x.fit(1);
        x.ask();
        x.rests();
        x.mixed(true, true);
        x.least(7, true);
        x.near(9, 5, 12, true);
        x.game(5, 5);
        x.bite(55555, true);
        x.whose();
        x.fullest();
        x.calm();
        x.ledger(0);
        x.book(0, 0);
        DUE.alike("behind all that asks", Seen.all(x), untouched);
    }

    // Promise 21 by Terms: "changes nothing but what is told"
    private static void tellingIsNoStep() {
        DUE.promise(21);
        QuiverKin x = Full.house(6);
        int[] due = {x.is(0), x.is(1), x.is(2), x.is(3), x.at(0), x.at(5), x.book(-1, 0), x.about(3), x.about(7)};
        x.spite(0, 5, 9);
        x.hedge(3, 3);
        x.guess(5, 1, 1);
        x.gain(0, 1, 3, 3);
        x.saying(9, 9);
        x.told(5, 5);
        int[] got = {x.is(0), x.is(1), x.is(2), x.is(3), x.at(0), x.at(5), x.book(-1, 0), x.about(3), x.about(7)};
        for (int i = 0; i < due.length; i++) {
            DUE.is("what is no thought, the " + i + "th", got[i], due[i]);
        }
        x.undo();
        DUE.is("GUESSES aren't taken back", x.about(4), 3);
        DUE.is("SAYINGS aren't taken back", x.about(5), 4);
        DUE.is("TOLD aren't taken back", x.about(6), 3);
    }

    private static QuiverKin table(int kin) {
        QuiverKin x = new QuiverKin();
        for (int i = 0; i < kin; i++) {
            x.kin(0, 0);
        }
        return x;
    }

    // ---- 21 to 26: SPITE

    // Promise 21: "SPITE told: true. False for others (unlike ones of the KIN; 0 .. 99)."
    private static void spiteOfOthers() {
        DUE.promise(21);
        EDGE.refusedKin("spite(v, 1, 5)", (x, v) -> Edge.bit(x.spite(v, 1, 5)), 0);
        EDGE.refusedKin("spite(1, v, 5)", (x, v) -> Edge.bit(x.spite(1, v, 5)), 0);
        EDGE.refused(6, "spite(v, v, 5)", (x, v) -> Edge.bit(x.spite(v, v, 5)), 0, 0, 1, 2, 3, 4, 5, 6, -1, MIN, MAX);
        EDGE.refused(6, "spite(0, 5, v)", (x, v) -> Edge.bit(x.spite(0, 5, v)), 0, Edge.outside(0, 99));
        EDGE.refused(1, "spite(0, v, 5) of one alone", (x, v) -> Edge.bit(x.spite(0, v, 5)), 0, 0, 1, -1);
        QuiverKin x = table(2);
        DUE.is("spite(0, 1, 99)", x.spite(0, 1, 99), true);
        DUE.is("SPITE", x.spiteNow(), 99);
        DUE.is("spite(0, 1, 0)", x.spite(0, 1, 0), true);
        DUE.is("SPITE", x.spiteNow(), 0);
    }

    // Promise 21 by Terms: "SPITE of two (told, either way; at first 0)."
    private static void spiteEitherWay() {
        DUE.promise(21);
        for (int a = 0; a < 6; a++) {
            for (int b = 0; b < 6; b++) {
                if (a == b) {
                    continue;
                }
                QuiverKin x = table(6);
                DUE.is("at first", x.round(false), 0);
                x.spite(a, b, 9);
                DUE.is("of " + a + " and " + b, x.round(false), 9);
                x.spite(b, a, 7);
                DUE.is("told the other way", x.round(false), 7);
                DUE.is("as they sit", x.spiteNow(), (a + 1) % 6 == b || (b + 1) % 6 == a ? 7 : 0);
            }
        }
    }

    private static void allSpite(QuiverKin x, int kin, int spite) {
        for (int a = 0; a < kin; a++) {
            for (int b = 0; b < a; b++) {
                x.spite(a, b, spite);
            }
        }
    }

    // Promise 22: "A ROUND: what the best (best true), the worst SEATING (best false) has of SPITE."
    // Promise 22 by Terms: "SPITE of one: of all two that are beside one another (of two KIN once; of fewer 0) together."
    private static void roundsOfFew() {
        DUE.promise(22);
        int[] due = {0, 0, 99, 297, 396, 495, 594};
        for (int kin = 0; kin <= 6; kin++) {
            QuiverKin x = table(kin);
            DUE.is("best of " + kin + " at first", x.round(true), 0);
            DUE.is("worst of " + kin + " at first", x.round(false), 0);
            allSpite(x, kin, 99);
            DUE.is("best of " + kin, x.round(true), due[kin]);
            DUE.is("worst of " + kin, x.round(false), due[kin]);
        }
    }

    // Promise 22 by Terms: "THE WORST: of most."
    private static void roundsAtMost() {
        DUE.promise(22);
        QuiverKin x = table(6);
        allSpite(x, 6, 10);
        int[] worst = {0, 4, 1, 5, 2, 3};
        for (int i = 0; i < 6; i++) {
            x.spite(worst[i], worst[(i + 1) % 6], 99);
        }
        DUE.is("the worst", x.round(false), 594);
        // 0 2 4 5 3 1 is a round of other pairs.
        DUE.is("the best", x.round(true), 60);
        QuiverKin three = table(3);
        three.spite(0, 1, 1);
        DUE.is("of three there is one round", three.round(true), 1);
        DUE.is("of three there is one round", three.round(false), 1);
        QuiverKin four = table(4);
        four.spite(0, 1, 1);
        DUE.is("of four two can be apart", four.round(true), 0);
        DUE.is("or beside one another", four.round(false), 1);
    }

    // Promise 23 by Terms: "THE BEST SEATING: of least SPITE, of like ones the lowest row"
    private static void lowestRow() {
        DUE.promise(23);
        for (int kin = 1; kin <= 6; kin++) {
            QuiverKin x = table(kin);
            for (int seat = 0; seat < kin; seat++) {
                DUE.is("seating(" + seat + ") of " + kin + " without SPITE", x.seating(seat), seat);
            }
        }
        // Just one round is without SPITE; it, too, stands in two rows, the other way about is 0 5 1 2 3 4.
        int[] good = {0, 4, 3, 2, 1, 5};
        QuiverKin x = table(6);
        allSpite(x, 6, 1);
        for (int i = 0; i < 6; i++) {
            x.spite(good[i], good[(i + 1) % 6], 0);
        }
        x.swap(0, 3);
        for (int seat = 0; seat < 6; seat++) {
            DUE.is("seating(" + seat + ")", x.seating(seat), good[seat]);
        }
        // 0 and 1 apart: the first row of all that has it so.
        x = table(6);
        x.spite(0, 1, 1);
        int[] apart = {0, 2, 1, 3, 4, 5};
        for (int seat = 0; seat < 6; seat++) {
            DUE.is("0 and 1 apart, seating(" + seat + ")", x.seating(seat), apart[seat]);
        }
    }

    // Promise 23: "THE BEST SEATING: who is at a SEAT. NONE for others."
    // Promise 23 by Terms: "SEATINGS: all rows of THE KIN by SEATS with 0 at SEAT 0"
    private static void seatingOfOthers() {
        DUE.promise(23);
        EDGE.refusedKin("seating(v)", (x, v) -> x.seating(v), -1);
        EDGE.refused(1, "seating(v) of one alone", (x, v) -> x.seating(v), -1, Edge.outside(0, 0));
        QuiverKin x = table(6);
        x.swap(0, 5);
        allSpite(x, 6, 50);
        DUE.is("0 is at SEAT 0", x.seating(0), 0);
        DUE.is("seating(5)", x.seating(5), 5);
        DUE.is("seating(0) of one alone", table(1).seating(0), 0);
    }

    // Promise 24: "SEATINGS: how many are as good."
    // Promise 24 by Terms: "how many are as good (without KIN 1)"
    private static void seatingsWithoutKinOne() {
        DUE.promise(24);
        int[] all = {1, 1, 1, 2, 6, 24, 120};
        for (int kin = 0; kin <= 6; kin++) {
            QuiverKin x = table(kin);
            DUE.is("of " + kin, x.seatings(), all[kin]);
            allSpite(x, kin, 99);
            DUE.is("of " + kin + ", all alike", x.seatings(), all[kin]);
        }
        QuiverKin x = table(6);
        x.spite(4, 5, 1);
        // Of 120 rows 4 and 5 are beside one another in 48.
        DUE.is("two apart", x.seatings(), 72);
    }

    // Promise 25: "SPITE as all sit now."
    private static void spiteAsNow() {
        DUE.promise(25);
        int[] due = {0, 0, 99, 297, 396, 495, 594};
        for (int kin = 0; kin <= 6; kin++) {
            QuiverKin x = table(kin);
            DUE.is("of " + kin + " at first", x.spiteNow(), 0);
            allSpite(x, kin, 99);
            DUE.is("of " + kin, x.spiteNow(), due[kin]);
        }
        QuiverKin x = table(6);
        x.spite(0, 5, 7);
        DUE.is("around", x.spiteNow(), 7);
        x.swap(5, 2);
        DUE.is("not beside", x.spiteNow(), 0);
        x.swap(0, 1);
        DUE.is("beside again", x.spiteNow(), 7);
        // 1 2 0 3 4 5: three have gone on by a SEAT, so that who is at a SEAT isn't the SEAT of that one.
        x = table(6);
        x.swap(0, 1);
        x.swap(0, 2);
        x.spite(0, 2, 1);
        x.spite(0, 1, 2);
        x.spite(1, 2, 4);
        x.spite(0, 3, 8);
        x.spite(1, 3, 16);
        x.spite(2, 3, 32);
        DUE.is("by who is at each SEAT", x.spiteNow(), 4 + 1 + 8);
    }

    private static void mends(QuiverKin x, int low, int high, int spite) {
        DUE.is("mend(0)", x.mend(0), low);
        DUE.is("mend(1)", x.mend(1), high);
        DUE.is("mend(2)", x.mend(2), spite);
    }

    // Promise 26: "TO MEND: 0, 1 whom to swap, 2 SPITE then. NONE: none, and for others."
    private static void mendOfOthers() {
        DUE.promise(26);
        EDGE.refused(6, "mend(v)", (x, v) -> x.mend(v), -1, Edge.outside(0, 2));
        for (int kin = 0; kin <= 6; kin++) {
            QuiverKin x = table(kin);
            mends(x, -1, -1, -1);
            allSpite(x, kin, 99);
            mends(x, -1, -1, -1);
        }
    }

    // Promise 26 by Terms: "TO MEND: the two by whose SWAP SPITE (as now) becomes least, less than now"
    private static void mendLessThanNow() {
        DUE.promise(26);
        QuiverKin x = table(6);
        // 0 beside 5 is 3. All others by whom they are parted bring 0 beside 2, or 2 beside 5.
        x.spite(0, 2, 5);
        x.spite(0, 5, 3);
        x.spite(2, 5, 2);
        mends(x, 4, 5, 0);
        x.swap(4, 5);
        mends(x, -1, -1, -1);
        x = table(4);
        x.spite(0, 1, 9);
        x.spite(0, 2, 9);
        x.spite(1, 3, 8);
        x.spite(2, 3, 9);
        // 0 1 2 3 has 0 1 and 2 3, 18; 0 2 1 3 and its like 0 2 and 1 3, 17; 0 1 3 2 has all four.
        mends(x, 0, 3, 17);
        x.spite(1, 3, 9);
        DUE.is("SPITE now", x.spiteNow(), 18);
        mends(x, -1, -1, -1);
    }

    // Promise 26 by Terms: "of like ones the lowest lower one, then the lowest other one; none."
    private static void mendOfLikeOnes() {
        DUE.promise(26);
        QuiverKin x = table(6);
        x.spite(0, 1, 5);
        // 0 with 1 or with 2 (2 1 0) leaves 0 beside 1; 0 with 3 is the first by which they are parted.
        mends(x, 0, 3, 0);
        x = table(6);
        x.spite(2, 3, 5);
        // Of 0 with 2 (2 1 0 3): apart.
        mends(x, 0, 2, 0);
        x = table(6);
        x.spite(4, 5, 5);
        // 0 with 4 (4 1 2 3 0 5) leaves 5 beside 4 around; 0 with 5 (5 1 2 3 4 0) parts them.
        mends(x, 0, 5, 0);
        x.swap(0, 5);
        mends(x, -1, -1, -1);
        // 3 1 2 0 4 5: it goes by who they are, not by where they sit; 0 with 1 or with 2 leaves 0 beside 2.
        x = table(6);
        x.swap(0, 3);
        x.spite(0, 2, 5);
        mends(x, 0, 3, 0);
    }

    // ---- 27 to 29: THE GARDEN

    // Promise 27: "A HEDGE told: true. False for others (0 .. 35; 0 .. 3)."
    private static void hedgeOfOthers() {
        DUE.promise(27);
        EDGE.refused(6, "hedge(v, 1)", (x, v) -> Edge.bit(x.hedge(v, 1)), 0, Edge.outside(0, 35));
        EDGE.refused(6, "hedge(9, v)", (x, v) -> Edge.bit(x.hedge(9, v)), 0, Edge.outside(0, 3));
        for (int cell = 0; cell < 36; cell++) {
            QuiverKin x = new QuiverKin();
            DUE.is("hedge(" + cell + ", 3)", x.hedge(cell, 3), true);
            DUE.is("a tree there", x.comes(cell, 2), cell < 6 ? -1 : 72 + cell % 6);
            DUE.is("hedge(" + cell + ", 0)", x.hedge(cell, 0), true);
            DUE.is("none again", x.comes(30 + cell % 6, 2), 72 + cell % 6);
        }
    }

    private static void flies(QuiverKin x, int cell, int way, int cells, int last, int turns, int atLast) {
        int[] due = {cells, last, turns, atLast};
        for (int what = 0; what < 4; what++) {
            DUE.is("flight(" + cell + ", " + way + ", " + what + ")", x.flight(cell, way, what), due[what]);
        }
    }

    // Promise 28 by Terms: "A HEDGE (told; at first 0) in each: 0 none, 1 (/) turns up to right, right to up, down to left, left to down, 2 (\\) up to
    // left, left to up, down to right, right to down, 3 a tree: it sticks there."
    private static void hedgesTurn() {
        DUE.promise(28);
        int[][] due = {{0, 1, 2, 3}, {1, 0, 3, 2}, {3, 2, 1, 0}};
        int[] ahead = {13, 6, 1, 8};
        int[] behind = {1, 11, 31, 6};
        for (int sort = 0; sort < 3; sort++) {
            QuiverKin x = new QuiverKin();
            if (sort > 0) {
                x.hedge(7, sort);
            }
            for (int way = 0; way < 4; way++) {
                int turned = due[sort][way];
                int cells = 1 + new int[] {1, 4, 4, 1}[turned];
                flies(x, ahead[way], way, cells, behind[turned], sort > 0 ? 1 : 0, turned);
            }
        }
        QuiverKin x = new QuiverKin();
        x.hedge(7, 3);
        for (int way = 0; way < 4; way++) {
            flies(x, ahead[way], way, 1, 7, 0, way);
        }
    }

    // Promise 28: "A FLIGHT: 0 how many CELLS, 1 the last CELL, 2 how many HEDGES it turns at, 3 the WAY at last. NONE: for ever, and for others
    // (0 .. 35; 0 .. 3)."
    private static void flightOfOthers() {
        DUE.promise(28);
        EDGE.refused(6, "flight(v, 0, 0)", (x, v) -> x.flight(v, 0, 0), -1, Edge.outside(0, 35));
        EDGE.refused(6, "flight(0, v, 0)", (x, v) -> x.flight(0, v, 0), -1, Edge.outside(0, 3));
        EDGE.refused(6, "flight(0, 0, v)", (x, v) -> x.flight(0, 0, v), -1, Edge.outside(0, 3));
        QuiverKin x = new QuiverKin();
        flies(x, 35, 3, 5, 30, 0, 3);
        flies(x, 0, 2, 5, 30, 0, 2);
    }

    // Promise 28 by Terms: "the last one (without any its own), how many HEDGES turn it, the WAY it goes at last"
    // Promise 28 by Terms: "A GARDEN of CELLS 0 .. 35 in six rows of six; WAYS 0 up (a row less), 1 right, 2 down, 3 left."
    private static void flightWithoutCells() {
        DUE.promise(28);
        for (int sort = 0; sort < 4; sort++) {
            QuiverKin x = new QuiverKin();
            for (int cell = 0; cell < 36; cell++) {
                x.hedge(cell, sort);
            }
            for (int i = 0; i < 6; i++) {
                flies(x, i, 0, 0, i, 0, 0);
                flies(x, 6 * i + 5, 1, 0, 6 * i + 5, 0, 1);
                flies(x, 30 + i, 2, 0, 30 + i, 0, 2);
                flies(x, 6 * i, 3, 0, 6 * i, 0, 3);
            }
        }
        QuiverKin x = new QuiverKin();
        x.hedge(1, 3);
        flies(x, 0, 1, 1, 1, 0, 1);
    }

    private static QuiverKin square() {
        QuiverKin x = new QuiverKin();
        x.hedge(7, 1);
        x.hedge(8, 2);
        x.hedge(13, 2);
        x.hedge(14, 1);
        return x;
    }

    // Promise 28 by Terms: "for ever (it comes to a CELL by a WAY again)"
    private static void flightOnceAround() {
        DUE.promise(28);
        QuiverKin x = square();
        int[][] inside = {{7, 1}, {8, 2}, {14, 3}, {13, 0}, {7, 2}, {13, 1}, {14, 0}, {8, 3}};
        for (int[] f : inside) {
            for (int what = 0; what < 4; what++) {
                DUE.is("flight(" + f[0] + ", " + f[1] + ", " + what + ")", x.flight(f[0], f[1], what), -1);
            }
        }
        flies(x, 7, 0, 1, 1, 0, 0);
        // To the same CELL again, but by another WAY: 14 on both of its sides.
        x = new QuiverKin();
        x.hedge(14, 2);
        x.hedge(20, 2);
        x.hedge(21, 1);
        x.hedge(15, 2);
        flies(x, 12, 1, 8, 2, 5, 0);
        // Through 14, where nothing is, once to the right and once up.
        x = new QuiverKin();
        x.hedge(15, 2);
        x.hedge(21, 1);
        x.hedge(20, 2);
        flies(x, 12, 1, 8, 2, 3, 0);
        // The largest round: along the rim.
        x = new QuiverKin();
        x.hedge(0, 1);
        x.hedge(5, 2);
        x.hedge(30, 2);
        x.hedge(35, 1);
        DUE.is("along the rim", x.flight(3, 1, 0), -1);
        x.hedge(0, 3);
        flies(x, 3, 1, 17, 0, 3, 0);
    }

    // Promise 28 by Terms: "how many CELLS it comes to (that with the tree, too)"
    // Promise 28 by Terms: "A FLIGHT from a CELL"
    // Promise 28 by Terms: "on by a WAY, CELL by CELL, turned in each by its HEDGE, till it sticks or would leave THE GARDEN"
    private static void longFlight() {
        DUE.promise(28);
        String hedges = "121212110201221102121021201022212121";
        QuiverKin x = new QuiverKin();
        for (int cell = 0; cell < 36; cell++) {
            x.hedge(cell, hedges.charAt(cell) - '0');
        }
        flies(x, 0, 1, 52, 24, 40, 3);
        // A spiral through all 36, to a tree in the midst, or on through it.
        x = new QuiverKin();
        turn(x, new int[] {5, 10, 15, 30, 25}, 2);
        turn(x, new int[] {35, 28, 21, 6, 13}, 1);
        flies(x, 0, 1, 37, 18, 10, 3);
        x.hedge(20, 3);
        flies(x, 0, 1, 35, 20, 10, 3);
        x.hedge(21, 3);
        flies(x, 0, 1, 34, 21, 9, 2);
    }

    private static void turn(QuiverKin x, int[] cells, int sort) {
        for (int cell : cells) {
            x.hedge(cell, sort);
        }
    }

    // Promise 28 by Terms: "(its own HEDGE, a tree, too, is nothing as it begins, but as it comes back)"
    private static void ownHedge() {
        DUE.promise(28);
        for (int sort = 1; sort < 4; sort++) {
            QuiverKin x = new QuiverKin();
            x.hedge(14, sort);
            flies(x, 14, 0, 2, 2, 0, 0);
            flies(x, 14, 1, 3, 17, 0, 1);
            flies(x, 14, 2, 3, 32, 0, 2);
            flies(x, 14, 3, 2, 12, 0, 3);
        }
        QuiverKin x = square();
        x.hedge(7, 3);
        flies(x, 7, 1, 4, 7, 3, 0);
        x.hedge(7, 2);
        flies(x, 7, 1, 5, 6, 4, 3);
        x.hedge(7, 0);
        flies(x, 7, 1, 5, 1, 3, 0);
        x.hedge(7, 1);
        DUE.is("on and on", x.flight(7, 1, 0), -1);
        // Back by the very WAY it began by: to begin there was not to come there, so it isn't for ever by that alone.
        x = new QuiverKin();
        turn(x, new int[] {8, 12}, 2);
        turn(x, new int[] {14, 6}, 1);
        DUE.is("nothing in 7: on and on", x.flight(7, 1, 0), -1);
        x.hedge(7, 1);
        flies(x, 7, 1, 7, 1, 5, 0);
        x.hedge(7, 2);
        flies(x, 7, 1, 10, 31, 5, 2);
        x.hedge(7, 3);
        flies(x, 7, 1, 6, 7, 4, 1);
    }

    // Promise 29 by Terms: "of CELLS at the rim with the WAY inwards (up from the lowest row, right from the left column, ..) from which a FLIGHT ends in
    // that CELL by that WAY at last; none."
    // Promise 29: "WHERE FROM: CELLS of the rim by WAY 0 .. 3: as 36 times the WAY, and the CELL. NONE: none, and for others."
    private static void comesOfOthers() {
        DUE.promise(29);
        EDGE.refused(6, "comes(v, 0)", (x, v) -> x.comes(v, 0), -1, Edge.outside(0, 35));
        EDGE.refused(6, "comes(0, v)", (x, v) -> x.comes(0, v), -1, Edge.outside(0, 3));
        QuiverKin x = square();
        for (int way = 0; way < 4; way++) {
            DUE.is("to where it would go on for ever", x.comes(7, way), -1);
        }
        x = new QuiverKin();
        for (int cell = 0; cell < 36; cell++) {
            x.hedge(cell, 3);
        }
        // Of a GARDEN of trees those next to the rim are come to, and no other ones.
        for (int cell = 0; cell < 36; cell++) {
            int row = cell / 6;
            int column = cell % 6;
            DUE.is("up to " + cell, x.comes(cell, 0), row == 4 ? cell + 6 : -1);
            DUE.is("right to " + cell, x.comes(cell, 1), column == 1 ? 36 + cell - 1 : -1);
            DUE.is("down to " + cell, x.comes(cell, 2), row == 1 ? 72 + cell - 6 : -1);
            DUE.is("left to " + cell, x.comes(cell, 3), column == 4 ? 108 + cell + 1 : -1);
        }
    }

    // Promise 29 by Terms: "CELLS at the rim with the WAY inwards (up from the lowest row, right from the left column, ..)"
    private static void rim() {
        DUE.promise(29);
        QuiverKin x = new QuiverKin();
        for (int cell = 0; cell < 36; cell++) {
            int row = cell / 6;
            int column = cell % 6;
            DUE.is("up out of " + cell, x.comes(cell, 0), row == 0 ? 30 + column : -1);
            DUE.is("right out of " + cell, x.comes(cell, 1), column == 5 ? 36 + 6 * row : -1);
            DUE.is("down out of " + cell, x.comes(cell, 2), row == 5 ? 72 + column : -1);
            DUE.is("left out of " + cell, x.comes(cell, 3), column == 0 ? 108 + 6 * row + 5 : -1);
        }
    }

    // Promise 29 by Terms: "WHERE FROM: the lowest (by WAY, then CELL)"
    private static void comesOfLikeOnes() {
        DUE.promise(29);
        QuiverKin x = new QuiverKin();
        DUE.is("from 0 to the right", x.comes(5, 1), 36);
        x.hedge(0, 1);
        DUE.is("or from 30 up and turned in 0", x.comes(5, 1), 30);
        // From 30 up, or from 32 up by 26, 25, 31 and back to 30: the lower CELL.
        x = new QuiverKin();
        x.hedge(26, 2);
        x.hedge(25, 1);
        x.hedge(31, 1);
        x.hedge(30, 2);
        DUE.is("flight from 32", x.flight(32, 0, 1), 0);
        DUE.is("flight from 30", x.flight(30, 0, 1), 0);
        DUE.is("the lower CELL", x.comes(0, 0), 30);
        // From 0 to the right, or from 33 up, left from 27, up from 24 and turned in 0: the lower WAY, though of a higher CELL.
        x = new QuiverKin();
        turn(x, new int[] {27, 24}, 2);
        x.hedge(0, 1);
        DUE.is("the lower WAY", x.comes(5, 1), 33);
        x.hedge(12, 3);
        DUE.is("the other one", x.comes(5, 1), 36);
        x = new QuiverKin();
        x.hedge(5, 3);
        DUE.is("a tree in a corner, to the right", x.comes(5, 1), 36);
        DUE.is("a tree in a corner, up", x.comes(5, 0), 35);
        DUE.is("none out of there", x.comes(5, 2), -1);
    }

    private static int row(int a, int b, int c) {
        return 25 * a + 5 * b + c;
    }

    // ---- 30 to 34: GUESSES

    // Promise 30: "A GUESS: how many there are (row NONE: none any more). -2 for others (0 .. 124; 0 .. 3 together), or if there are 6."
    private static void guessOfOthers() {
        DUE.promise(30);
        EDGE.refused(6, "guess(v, 1, 1)", (x, v) -> x.guess(v, 1, 1), -2, Edge.outside(-1, 124));
        EDGE.refused(6, "guess(0, v, 0)", (x, v) -> x.guess(0, v, 0), -2, Edge.outside(0, 3));
        EDGE.refused(6, "guess(0, 0, v)", (x, v) -> x.guess(0, 0, v), -2, Edge.outside(0, 3));
        for (int right = 0; right <= 4; right++) {
            for (int near = 0; near <= 4; near++) {
                QuiverKin x = new QuiverKin();
                int due = right + near <= 3 ? 1 : -2;
                DUE.is("guess(124, " + right + ", " + near + ")", x.guess(124, right, near), due);
                DUE.is("GUESSES", x.about(4), Math.max(due, 0));
            }
        }
        EDGE.refused(6, "guess(0, v, 1)", (x, v) -> x.guess(0, v, 1), -2, 3, -1, MIN, MAX);
        EDGE.refused(6, "guess(0, v, -v)", (x, v) -> x.guess(0, v, -v), -2, 1, -1, 3, MIN, MAX);
        QuiverKin x = new QuiverKin();
        DUE.is("guess(-1, 0, 0) of none", x.guess(-1, 0, 0), 0);
        DUE.is("guess(0, 0, 0)", x.guess(0, 0, 0), 1);
        DUE.is("guess(-1, MIN, MAX)", x.guess(-1, MIN, MAX), 0);
        DUE.is("GUESSES", x.about(4), 0);
        DUE.is("all fit", x.fits(), 125);
    }

    private static QuiverKin guessedOften(int n) {
        QuiverKin x = new QuiverKin();
        for (int i = 0; i < n; i++) {
            x.guess(row(0, 1, 2), 0, 3);
        }
        return x;
    }

    // Promise 30 by Terms: "GUESSES (6 at most; told: a ROW, how many were right, near)."
    private static void sixGuesses() {
        DUE.promise(30);
        DUE.is("the 6th", guessedOften(5).guess(row(1, 2, 0), 3, 0), 6);
        EDGE.refused(() -> guessedOften(6), "guess(v, 3, 0), the 7th", (x, v) -> x.guess(v, 3, 0), -2, row(1, 2, 0), 0, 124, 125, MIN);
        QuiverKin x = guessedOften(5);
        x.guess(row(1, 2, 0), 3, 0);
        DUE.is("the 6th is asked", x.fits(), 1);
        x = guessedOften(6);
        x.guess(row(1, 2, 0), 3, 0);
        DUE.is("the 7th isn't", x.fits(), 2);
        DUE.is("none any more", x.guess(-1, 0, 0), 0);
        DUE.is("told anew", x.guess(row(1, 2, 0), 3, 0), 1);
    }

    // Promise 31: "AN ANSWER: 10 times how many are right, and how many near. NONE for others (0 .. 124 each)."
    private static void answerOfOthers() {
        DUE.promise(31);
        EDGE.refused(6, "answer(v, 0)", (x, v) -> x.answer(v, 0), -1, Edge.outside(0, 124));
        EDGE.refused(6, "answer(0, v)", (x, v) -> x.answer(0, v), -1, Edge.outside(0, 124));
        QuiverKin x = new QuiverKin();
        DUE.is("answer(0, 0)", x.answer(0, 0), 30);
        DUE.is("answer(124, 124)", x.answer(124, 124), 30);
        DUE.is("answer(0, 124)", x.answer(0, 124), 0);
        DUE.is("answer(124, 0)", x.answer(124, 0), 0);
    }

    // Promise 31 by Terms: "ROWS of three of 0 .. 4 as a number by 5, the first highest."
    private static void rowsByFive() {
        DUE.promise(31);
        QuiverKin x = new QuiverKin();
        // 000 001, 001 010, 010 100, 004 010, 044 100, 444 344, 040 004, 001 100
        int[][] due = {{0, 1, 20}, {1, 5, 12}, {5, 25, 12}, {4, 5, 11}, {24, 25, 1}, {124, 99, 20}, {20, 4, 12}, {1, 25, 12}};
        for (int[] d : due) {
            DUE.is("answer(" + d[0] + ", " + d[1] + ")", x.answer(d[0], d[1]), d[2]);
        }
    }

    // Promise 31 by Terms: "AN ANSWER to a ROW, if another one is real: how many are right (the same at its place), how many near (as many as both have of each, places aside, less those right)"
    private static void answersAtEdges() {
        DUE.promise(31);
        QuiverKin x = new QuiverKin();
        int[][] due = {{row(0, 1, 2), row(1, 2, 0), 3}, {row(0, 1, 2), row(0, 2, 1), 12}, {row(0, 0, 1), row(0, 1, 0), 12}, {row(0, 0, 0), row(0, 0, 4), 20},
            {row(0, 0, 4), row(4, 4, 0), 2}, {row(0, 0, 4), row(4, 0, 0), 12}, {row(3, 3, 3), row(4, 3, 4), 10}, {row(4, 0, 0), row(1, 4, 4), 1},
            {row(2, 2, 1), row(1, 1, 2), 2}, {row(4, 3, 2), row(0, 1, 3), 1}};
        for (int[] d : due) {
            DUE.is("answer(" + d[0] + ", " + d[1] + ")", x.answer(d[0], d[1]), d[2]);
            DUE.is("answer(" + d[1] + ", " + d[0] + ")", x.answer(d[1], d[0]), d[2]);
        }
    }

    // Promise 32: "FITS: how many rows."
    // Promise 32 by Terms: "FITS: ROWS by which, were they real, all GUESSES were answered so; by number."
    // Promise 34 by Terms: "without GUESSES all fit"
    private static void fitsNoneOneAll() {
        DUE.promise(32);
        QuiverKin x = new QuiverKin();
        DUE.is("without GUESSES", x.fits(), 125);
        x.guess(124, 3, 0);
        DUE.is("one", x.fits(), 1);
        x.guess(124, 0, 0);
        DUE.is("none", x.fits(), 0);
        x.guess(-1, 0, 0);
        x.guess(124, 0, 0);
        DUE.is("of four numbers", x.fits(), 64);
        x.guess(-1, 0, 0);
        x.guess(row(0, 1, 2), 2, 1);
        DUE.is("two right and one near can't be", x.fits(), 0);
    }

    // Promise 33: "THE i-th ROW that fits. NONE: none, and for others."
    private static void fitOfOthers() {
        DUE.promise(33);
        EDGE.refused(QuiverKin::new, "fit(v) of all", (x, v) -> x.fit(v), -1, Edge.outside(0, 124));
        EDGE.refused(() -> guessedOften(1), "fit(v) of two", (x, v) -> x.fit(v), -1, Edge.outside(0, 1));
        QuiverKin x = new QuiverKin();
        DUE.is("fit(0) of all", x.fit(0), 0);
        DUE.is("fit(124) of all", x.fit(124), 124);
        x.guess(124, 3, 0);
        DUE.is("fit(0) of one", x.fit(0), 124);
        DUE.is("fit(1) of one", x.fit(1), -1);
        x.guess(124, 0, 0);
        DUE.is("fit(0) of none", x.fit(0), -1);
        x = guessedOften(1);
        DUE.is("by number", x.fit(0), row(1, 2, 0));
        DUE.is("by number", x.fit(1), row(2, 0, 1));
    }

    // Promise 34: "WHAT TO ASK: the ROW. NONE: none."
    // Promise 34 by Terms: "none (one fits, or none; without GUESSES all fit)"
    private static void askOfFew() {
        DUE.promise(34);
        QuiverKin x = new QuiverKin();
        DUE.is("all fit", x.ask(), row(0, 1, 2));
        x.guess(124, 3, 0);
        DUE.is("one fits", x.ask(), -1);
        x.guess(124, 0, 0);
        DUE.is("none fits", x.ask(), -1);
        DUE.is("two fit", guessedOften(1).ask(), row(1, 2, 0));
    }

    // Promise 34 by Terms: "WHAT TO ASK: the ROW (any) by whose ANSWER, of those that fit, the most are alike at fewest; of like ones the lowest that fits, else the lowest"
    private static void askOfLikeOnes() {
        DUE.promise(34);
        // 120 and 201 fit. 001 tells them apart, too, and is lower, but doesn't fit.
        QuiverKin x = guessedOften(1);
        DUE.is("001 tells them apart", x.answer(row(0, 0, 1), row(1, 2, 0)) == x.answer(row(0, 0, 1), row(2, 0, 1)), false);
        DUE.is("the lowest that fits", x.ask(), row(1, 2, 0));
        // 031, 103 and 310 fit; each of these leaves two alike, but 001 none (000 all three).
        x = new QuiverKin();
        x.guess(row(0, 0, 0), 1, 0);
        x.guess(row(0, 1, 3), 1, 2);
        DUE.is("fits", x.fits(), 3);
        DUE.is("001 and 031", x.answer(row(0, 0, 1), row(0, 3, 1)), 20);
        DUE.is("001 and 103", x.answer(row(0, 0, 1), row(1, 0, 3)), 11);
        DUE.is("001 and 310", x.answer(row(0, 0, 1), row(3, 1, 0)), 2);
        DUE.is("else the lowest", x.ask(), row(0, 0, 1));
        // 100, 102 and 120 fit: 100 leaves two alike, 102 none; 001, which doesn't fit, none either.
        x = new QuiverKin();
        x.guess(row(0, 1, 4), 0, 2);
        x.guess(row(4, 4, 4), 0, 0);
        x.guess(row(3, 3, 1), 0, 1);
        DUE.is("fits", x.fits(), 3);
        DUE.is("fit(0)", x.fit(0), row(1, 0, 0));
        DUE.is("fit(1)", x.fit(1), row(1, 0, 2));
        DUE.is("fit(2)", x.fit(2), row(1, 2, 0));
        DUE.is("the second that fits", x.ask(), row(1, 0, 2));
        // 000 and 444 fit.
        x = new QuiverKin();
        x.guess(row(0, 1, 4), 1, 0);
        x.guess(row(4, 1, 0), 1, 0);
        x.guess(row(2, 3, 1), 0, 0);
        DUE.is("fits", x.fits(), 2);
        DUE.is("the lowest of all", x.ask(), 0);
        x = new QuiverKin();
        x.guess(row(2, 1, 0), 0, 0);
        x.guess(row(4, 4, 0), 2, 0);
        x.guess(row(1, 0, 0), 0, 0);
        x.guess(row(0, 0, 0), 0, 0);
        DUE.is("fits", x.fits(), 2);
        DUE.is("the last but one", x.ask(), 123);
    }

    // ---- 35 to 37: two who wait

    // Promise 35: "GAINS told: true. False for others (0, 1 each; -99 .. 99)."
    private static void gainOfOthers() {
        DUE.promise(35);
        EDGE.refused(6, "gain(v, 0, 1, 1)", (x, v) -> Edge.bit(x.gain(v, 0, 1, 1)), 0, Edge.outside(0, 1));
        EDGE.refused(6, "gain(0, v, 1, 1)", (x, v) -> Edge.bit(x.gain(0, v, 1, 1)), 0, Edge.outside(0, 1));
        EDGE.refused(6, "gain(1, 1, v, 1)", (x, v) -> Edge.bit(x.gain(1, 1, v, 1)), 0, Edge.outside(-99, 99));
        EDGE.refused(6, "gain(1, 1, 1, v)", (x, v) -> Edge.bit(x.gain(1, 1, 1, v)), 0, Edge.outside(-99, 99));
        for (int cell = 0; cell < 4; cell++) {
            QuiverKin x = new QuiverKin();
            DUE.is("gain of 99 each", x.gain(cell / 2, cell % 2, 99, 99), true);
            // It rests there, and where neither comes to it alone.
            DUE.is("rests", x.rests(), 1 << cell | 1 << (3 - cell));
            DUE.is("gain of -99 each", x.gain(cell / 2, cell % 2, -99, -99), true);
            DUE.is("rests", x.rests(), 15 & ~(1 << cell));
            DUE.is("gain of -99 and 99", x.gain(cell / 2, cell % 2, -99, 99), true);
            DUE.is("gain of 99 and -99", x.gain(cell / 2, cell % 2, 99, -99), true);
        }
    }

    /** GAINS by how much more 0 gains than 1: the second by what the first does, the first by what the second does. */
    private static QuiverKin gains(int secondAtZero, int secondAtOne, int firstAtZero, int firstAtOne) {
        QuiverKin x = new QuiverKin();
        x.gain(0, 0, upper(firstAtZero), upper(secondAtZero));
        x.gain(0, 1, upper(firstAtOne), upper(secondAtZero) - secondAtZero);
        x.gain(1, 0, upper(firstAtZero) - firstAtZero, upper(secondAtOne));
        x.gain(1, 1, upper(firstAtOne) - firstAtOne, upper(secondAtOne) - secondAtOne);
        return x;
    }

    private static int upper(int more) {
        return Math.max(-99, Math.min(99, more));
    }

    // Promise 36: "RESTS (bits of 4)."
    // Promise 36 by Terms: "TWO who wait: each does 0 or 1: GAINS of both (told, by what the first, the second does; at first 0). RESTS: of 2 times what the
    // first does and what the second does those (bits) from which neither gains more by doing otherwise alone"
    private static void restsAtEdges() {
        DUE.promise(36);
        int[] more = {-198, -1, 0, 1, 198};
        for (int a : more) {
            for (int b : more) {
                for (int c : more) {
                    for (int d : more) {
                        int due = (a >= 0 && c >= 0 ? 1 : 0) + (a <= 0 && d >= 0 ? 2 : 0) + (b >= 0 && c <= 0 ? 4 : 0) + (b <= 0 && d <= 0 ? 8 : 0);
                        DUE.is("rests of " + a + " " + b + " " + c + " " + d, gains(a, b, c, d).rests(), due);
                    }
                }
            }
        }
        DUE.is("at first", new QuiverKin().rests(), 15);
    }

    // Promise 37: "MIXED: the upper (low false), the lower one (low true) of the first (first true), the second (first false). NONE: none."
    // Promise 37 by Terms: "MIXED: how likely each does 1, so that the other one gains as much by 0 as by 1 (of both strictly between 0 and 1, and of both just one such)"
    private static void mixedStrictlyBetween() {
        DUE.promise(37);
        int[] more = {-198, -1, 0, 1, 198};
        for (int a : more) {
            for (int b : more) {
                boolean can = a < 0 && b > 0 || a > 0 && b < 0;
                QuiverKin x = gains(a, b, 1, -1);
                QuiverKin y = gains(-1, 1, a, b);
                for (int which = 0; which < 4; which++) {
                    boolean first = which > 1;
                    boolean low = which % 2 == 1;
                    DUE.is("there is one by " + a + " " + b, x.mixed(first, low) != -1, can);
                    DUE.is("there is one by " + a + " " + b + " of the other", y.mixed(first, low) != -1, can);
                }
            }
        }
        DUE.is("at first", new QuiverKin().mixed(true, false), -1);
    }

    private static void mixed(int a, int b, int up, int low) {
        QuiverKin x = gains(a, b, -1, 1);
        DUE.is("upper by " + a + " " + b, x.mixed(true, false), up);
        DUE.is("lower by " + a + " " + b, x.mixed(true, true), low);
        DUE.is("upper of the other", x.mixed(false, false), 1);
        DUE.is("lower of the other", x.mixed(false, true), 2);
        QuiverKin y = gains(-1, 1, a, b);
        DUE.is("upper of the second by " + a + " " + b, y.mixed(false, false), up);
        DUE.is("lower of the second by " + a + " " + b, y.mixed(false, true), low);
    }

    // Promise 37 by Terms: "in lowest terms; none."
    private static void mixedLowest() {
        DUE.promise(37);
        mixed(1, -1, 1, 2);
        mixed(-1, 1, 1, 2);
        mixed(198, -198, 1, 2);
        mixed(198, -1, 198, 199);
        mixed(1, -198, 1, 199);
        mixed(-197, 198, 197, 395);
        mixed(198, -197, 198, 395);
        mixed(-2, 4, 1, 3);
        mixed(198, -99, 2, 3);
        mixed(6, -9, 2, 5);
    }

    // ---- 38 to 40: SAYINGS, HOW NEAR

    // Promise 38: "A SAYING: how many there are (costs NONE: none any more). -2 for others (0 .. 99; 1 .. 99), or if there are 8."
    private static void sayingOfOthers() {
        DUE.promise(38);
        EDGE.refused(6, "saying(v, 1)", (x, v) -> x.saying(v, 1), -2, Edge.outside(-1, 99));
        EDGE.refused(6, "saying(0, v)", (x, v) -> x.saying(0, v), -2, Edge.outside(1, 99));
        QuiverKin x = new QuiverKin();
        DUE.is("saying(-1, 1) of none", x.saying(-1, 1), 0);
        DUE.is("saying(0, 1)", x.saying(0, 1), 1);
        DUE.is("saying(99, 99)", x.saying(99, 99), 2);
        DUE.is("saying(0, 99)", x.saying(0, 99), 3);
        DUE.is("saying(99, 1)", x.saying(99, 1), 4);
        DUE.is("saying(-1, MIN)", x.saying(-1, MIN), 0);
        DUE.is("SAYINGS", x.about(5), 0);
        DUE.is("saying(-1, 0) of none", x.saying(-1, 0), 0);
        DUE.is("none is left", x.least(1, true), -1);
    }

    private static QuiverKin saidOften(int n, int costs, int down) {
        QuiverKin x = new QuiverKin();
        for (int i = 0; i < n; i++) {
            x.saying(costs, down);
        }
        return x;
    }

    // Promise 38 by Terms: "SAYINGS (8 at most; told: what it costs, how many it puts down)."
    private static void eightSayings() {
        DUE.promise(38);
        DUE.is("the 8th", saidOften(7, 1, 1).saying(9, 9), 8);
        EDGE.refused(() -> saidOften(8, 1, 1), "saying(v, 99), the 9th", (x, v) -> x.saying(v, 99), -2, 0, 99, 100, -2, MIN, MAX);
        QuiverKin x = saidOften(8, 9, 9);
        x.saying(0, 99);
        DUE.is("the 9th isn't said", x.least(99, true), -1);
        x = saidOften(7, 9, 9);
        x.saying(0, 99);
        DUE.is("the 8th is", x.least(99, false), 128);
    }

    private static void least(QuiverKin x, int need, int set, int costs) {
        DUE.is("least(" + need + ", false)", x.least(need, false), set);
        DUE.is("least(" + need + ", true)", x.least(need, true), costs);
    }

    // Promise 39: "THE LEAST SAID: SAYINGS (costs false; bits), what they cost (costs true). NONE: none, and for others (0 .. 999)."
    private static void leastOfOthers() {
        DUE.promise(39);
        EDGE.refused(6, "least(v, true)", (x, v) -> x.least(v, true), -1, Edge.outside(0, 999));
        EDGE.refused(6, "least(v, false)", (x, v) -> x.least(v, false), -1, Edge.outside(0, 999));
        QuiverKin x = saidOften(8, 99, 99);
        least(x, 0, 0, 0);
        least(x, 999, -1, -1);
    }

    // Promise 39 by Terms: "THE LEAST SAID by which as many as needed or more are put down"
    // Promise 39 by Terms: "(0 needed: none of them); none."
    private static void leastAtEdges() {
        DUE.promise(39);
        least(new QuiverKin(), 0, 0, 0);
        least(new QuiverKin(), 1, -1, -1);
        QuiverKin x = saidOften(8, 99, 99);
        least(x, 1, 1, 99);
        least(x, 98, 1, 99);
        least(x, 99, 1, 99);
        least(x, 100, 3, 198);
        least(x, 198, 3, 198);
        least(x, 693, 127, 693);
        least(x, 694, 255, 792);
        least(x, 792, 255, 792);
        least(x, 793, -1, -1);
        x = saidOften(8, 0, 1);
        least(x, 0, 0, 0);
        least(x, 8, 255, 0);
        least(x, 9, -1, -1);
    }

    // Promise 39 by Terms: "of least costs; of like ones the fewest, then the lowest set"
    private static void leastOfLikeOnes() {
        DUE.promise(39);
        QuiverKin x = new QuiverKin();
        x.saying(2, 3);
        x.saying(2, 3);
        x.saying(4, 6);
        least(x, 3, 1, 2);
        least(x, 4, 4, 4);
        least(x, 6, 4, 4);
        least(x, 7, 5, 6);
        least(x, 10, 7, 8);
        x = new QuiverKin();
        x.saying(3, 5);
        x.saying(2, 4);
        x.saying(2, 4);
        x.saying(1, 3);
        // By 0 and 3, or by 1 and 2: 4 each. As bits 6 is lower than 9.
        least(x, 8, 6, 4);
        x = new QuiverKin();
        x.saying(0, 1);
        x.saying(5, 5);
        least(x, 5, 2, 5);
        x.saying(4, 4);
        // 0 and 2 cost 4: less, though they are two.
        least(x, 5, 5, 4);
    }

    private static void near(int odds, int from, int limit, long up, long low) {
        QuiverKin x = new QuiverKin();
        String what = "near(" + odds + ", " + from + ", " + limit + ", ";
        DUE.is(what + "false)", x.near(odds, from, limit, false), up);
        DUE.is(what + "true)", x.near(odds, from, limit, true), low);
    }

    // Promise 40: "HOW NEAR: the upper (low false), the lower one (low true). NONE for others (1 .. 9; 0 .. limit; limit 1 .. 12)."
    private static void nearOfOthers() {
        DUE.promise(40);
        for (int way = 0; way < 2; way++) {
            boolean low = way == 1;
            EDGE.refused(6, "near(v, 1, 2, " + low + ")", (x, v) -> x.near(v, 1, 2, low), -1, Edge.outside(1, 9));
            EDGE.refused(6, "near(5, 0, v, " + low + ")", (x, v) -> x.near(5, 0, v, low), -1, Edge.outside(1, 12));
            EDGE.refused(6, "near(5, v, v, " + low + ")", (x, v) -> x.near(5, v, v, low), -1, Edge.outside(1, 12));
            for (int limit = 1; limit <= 12; limit++) {
                int last = limit;
                EDGE.refused(0, "near(5, v, " + limit + ", " + low + ")", (x, v) -> x.near(5, v, last, low), -1, Edge.outside(0, limit));
            }
        }
        near(1, 0, 1, 0, 1);
        near(9, 12, 12, 1, 1);
    }

    // Promise 40 by Terms: "in lowest terms (of 0: 0 by 1; at the limit 1 by 1)."
    private static void nearAtEnds() {
        DUE.promise(40);
        for (int odds = 1; odds <= 9; odds++) {
            for (int limit = 1; limit <= 12; limit++) {
                near(odds, 0, limit, 0, 1);
                near(odds, limit, limit, 1, 1);
            }
            // In the midst of two it is the odds themselves: of 10, in lowest terms.
            near(odds, 1, 2, odds == 5 ? 1 : odds % 2 == 0 ? odds / 2 : odds, odds == 5 ? 2 : odds % 2 == 0 ? 5 : 10);
        }
    }

    // Promise 40 by Terms: "HOW NEAR: one has so many, and at each dinner one more by odds of 10, else one less: how likely it comes to the limit ahead of 0"
    private static void nearFarthest() {
        DUE.promise(40);
        for (int from = 1; from < 12; from++) {
            int shared = from % 6 == 0 ? 6 : from % 4 == 0 ? 4 : from % 3 == 0 ? 3 : from % 2 == 0 ? 2 : 1;
            near(5, from, 12, from / shared, 12 / shared);
        }
        // By odds of 1 against 9: (9^from - 1) / 8 of (9^12 - 1) / 8, and 9^12 - 1 is 8 times 35303692060.
        near(1, 1, 12, 1, 35303692060L);
        near(1, 11, 12, 3922632451L, 35303692060L);
        near(9, 1, 12, 31381059609L, 35303692060L);
        near(9, 11, 12, 35303692059L, 35303692060L);
        near(1, 5, 6, 7381, 66430);
        // By odds of 2 against 8, 1 to 4: 1 of (4^12 - 1) / 3.
        near(2, 1, 12, 1, 5592405);
        near(2, 6, 12, 1, 4097);
    }

    // ---- 41 and 42: the game of bites

    // Promise 41 by Terms: "A GAME of rows of squares (tall 1 .. 5, each as wide): by turns one takes a square and all that are neither above nor left of it;
    // who takes the first one (row 0, column 0) loses."
    // Promise 41: "A GAME: 1 the one who begins wins, 0 the other one. NONE for others (1 .. 5 each)."
    private static void gameOfOthers() {
        DUE.promise(41);
        EDGE.refused(6, "game(v, 1)", (x, v) -> x.game(v, 1), -1, Edge.outside(1, 5));
        EDGE.refused(6, "game(1, v)", (x, v) -> x.game(1, v), -1, Edge.outside(1, 5));
        EDGE.refused(6, "game(v, v)", (x, v) -> x.game(v, v), -1, Edge.outside(1, 5));
        QuiverKin x = new QuiverKin();
        for (int tall = 1; tall <= 5; tall++) {
            for (int wide = 1; wide <= 5; wide++) {
                DUE.is("game(" + tall + ", " + wide + ")", x.game(tall, wide), tall == 1 && wide == 1 ? 0 : 1);
            }
        }
    }

    private static void bites(int shape, int row, int column) {
        QuiverKin x = new QuiverKin();
        DUE.is("bite(" + shape + ", true)", x.bite(shape, true), row);
        DUE.is("bite(" + shape + ", false)", x.bite(shape, false), column);
    }

    // Promise 42: "A BITE: the row (up true), the column (up false). NONE: none wins, and for others (0 .. 55555)."
    // Promise 42 by Terms: "of a shape (5 digits, rows from the top on, none wider than the one above)"
    private static void biteOfOthers() {
        DUE.promise(42);
        EDGE.refused(6, "bite(v, true)", (x, v) -> x.bite(v, true), -1, Edge.outside(0, 55555));
        EDGE.refused(6, "bite(v, false)", (x, v) -> x.bite(v, false), -1, Edge.outside(0, 55555));
        for (int not : new int[] {1, 2, 10, 100, 1000, 9999, 10001, 11011, 12000, 22023, 45555, 50505, 54345, 54545, 55455, 55545, 60000, 66666, 99999, 100000,
            155555, 555550}) {
            bites(not, -1, -1);
        }
        bites(55555, 1, 1);
        bites(50000, 0, 1);
        bites(11111, 1, 0);
    }

    // Promise 42 by Terms: "A BITE: of a shape"
    // Promise 42 by Terms: "none (a shape that isn't one, too)."
    private static void biteWithoutAny() {
        DUE.promise(42);
        bites(0, -1, -1);
        bites(10000, -1, -1);
        // As long as wide: who is left with it, answers on the other side.
        bites(21000, -1, -1);
        bites(31100, -1, -1);
        bites(41110, -1, -1);
        bites(51111, -1, -1);
        // One less in the second row.
        bites(32000, -1, -1);
        bites(43000, -1, -1);
        bites(54000, -1, -1);
    }

    // Promise 42 by Terms: "by which the other one loses: the lowest row, then column"
    private static void biteLowest() {
        DUE.promise(42);
        bites(20000, 0, 1);
        bites(11000, 1, 0);
        bites(22000, 1, 1);
        bites(33000, 1, 2);
        bites(44000, 1, 3);
        bites(55000, 1, 4);
        bites(53000, 0, 4);
        bites(55500, 2, 3);
        bites(33300, 1, 1);
        bites(44440, 1, 1);
        bites(21100, 2, 0);
        // Of 51: the row can be bitten to 21, at column 2.
        bites(51000, 0, 2);
        bites(21111, 2, 0);
        // 4111 is without any, and nothing else brings one there.
        bites(41111, 4, 0);
    }
}
