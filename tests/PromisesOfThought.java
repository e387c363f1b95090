import java.util.ArrayList;
import java.util.List;

/** Promises 21 to 42: seatings, the garden, guesses, two who wait, sayings, how near, the game of bites. */
public final class PromisesOfThought {
    private static final Due DUE = new Due();

    public static void main(String[] args) {
        spite();
        fewAtTable();
        rounds();
        mend();
        hedge();
        flights();
        comes();
        answers();
        guesses();
        ask();
        gains();
        mixed();
        sayings();
        least();
        near();
        game();
        bites();
        DUE.end("PromisesOfThought");
    }

    private static void spite() {
        DUE.promise(21);
        QuiverKin x = Due.table(0, 0, 0, 0, 0, 0);
        int[][] wrong = {{0, 0, 1}, {0, 3, 1}, {3, 0, 1}, {-1, 0, 1}, {0, -1, 1}, {0, 1, -1}, {0, 1, 100}, {Integer.MAX_VALUE, 0, 1}};
        for (int[] w : wrong) {
            DUE.is("spite(" + w[0] + ", " + w[1] + ", " + w[2] + ")", x.spite(w[0], w[1], w[2]), false);
        }
        DUE.is("SPITE at first", x.spiteNow(), 0);
        DUE.is("spite(2, 1, 99)", x.spite(2, 1, 99), true);
        DUE.is("spite(0, 1, 7)", x.spite(0, 1, 7), true);
        DUE.promise(25);
        DUE.is("SPITE now", x.spiteNow(), 106);
        DUE.promise(21);
        DUE.is("told anew, the other way", x.spite(1, 2, 0), true);
        DUE.promise(25);
        DUE.is("SPITE now", x.spiteNow(), 7);
        DUE.promise(21);
        DUE.is("and no STEP", x.about(3), 0);
    }

    private static void seatings(QuiverKin x, int best, int worst, int asGood, int... row) {
        DUE.promise(22);
        DUE.is("round(true)", x.round(true), best);
        DUE.is("round(false)", x.round(false), worst);
        DUE.promise(23);
        for (int seat = 0; seat < row.length; seat++) {
            DUE.is("seating(" + seat + ")", x.seating(seat), row[seat]);
        }
        DUE.is("seating beyond", x.seating(row.length), -1);
        DUE.is("seating(-1)", x.seating(-1), -1);
        DUE.promise(24);
        DUE.is("seatings()", x.seatings(), asGood);
    }

    private static void fewAtTable() {
        QuiverKin x = new QuiverKin();
        seatings(x, 0, 0, 1);
        DUE.promise(25);
        DUE.is("SPITE of none", x.spiteNow(), 0);
        x.kin(0, 0);
        seatings(x, 0, 0, 1, 0);
        DUE.is("SPITE of one", x.spiteNow(), 0);
        x.kin(0, 0);
        x.spite(0, 1, 9);
        seatings(x, 9, 9, 1, 0, 1);
        DUE.promise(25);
        DUE.is("SPITE of two once", x.spiteNow(), 9);
        DUE.promise(26);
        DUE.is("nothing to mend", x.mend(0), -1);
        x.kin(0, 0);
        x.spite(1, 2, 5);
        x.spite(0, 2, 1);
        seatings(x, 15, 15, 2, 0, 1, 2);
        DUE.promise(25);
        DUE.is("SPITE of three", x.spiteNow(), 15);
    }

    private static void rounds() {
        QuiverKin x = Due.table(0, 0, 0, 0, 0, 0, 0, 0, 0, 0, 0, 0);
        seatings(x, 0, 0, 120, 0, 1, 2, 3, 4, 5);
        // All round once is 0 2 4 1 3 5: only by it (either way) no SPITE is left.
        int[] good = {0, 2, 4, 1, 3, 5};
        for (int a = 0; a < 6; a++) {
            for (int b = 0; b < a; b++) {
                x.spite(a, b, 10);
            }
        }
        for (int i = 0; i < 6; i++) {
            x.spite(good[i], good[(i + 1) % 6], 0);
        }
        seatings(x, 0, 60, 2, 0, 2, 4, 1, 3, 5);
        DUE.promise(25);
        // 0 1 2 3 4 5 around: of it just 5 to 0 is without.
        DUE.is("SPITE now", x.spiteNow(), 50);
        x.swap(0, 1);
        // 1 0 2 3 4 5: 0 to 2 is without, 5 to 1 is not.
        DUE.is("SPITE now", x.spiteNow(), 50);
        DUE.promise(22);
        DUE.is("whoever sits where", x.round(true), 0);
        DUE.promise(21);
        x = Due.table(0, 0, 0, 0, 0, 0, 0, 0);
        x.spite(0, 1, 1);
        // 0 beside 1 in 0123, 0132, 0231, 0321: not so in 0213 and 0312.
        seatings(x, 0, 1, 2, 0, 2, 1, 3);
        x = Due.table(0, 0, 0, 0, 0, 0, 0, 0, 0, 0);
        x.spite(0, 1, 50);
        x.spite(0, 2, 50);
        x.spite(3, 4, 99);
        // 0 between 3 and 4, and those not beside one another: 0 3 1 2 4, 0 3 2 1 4 and back.
        seatings(x, 0, 199, 4, 0, 3, 1, 2, 4);
    }

    private static void mend() {
        DUE.promise(26);
        QuiverKin x = Due.table(0, 0, 0, 0, 0, 0, 0, 0);
        DUE.is("none", x.mend(0), -1);
        DUE.is("none", x.mend(1), -1);
        DUE.is("none", x.mend(2), -1);
        x.spite(0, 1, 4);
        // 0 1 2 3: by 0 with 3 it is 3 1 2 0, by 0 with 2 all stay beside; by 1 with 2 0 2 1 3; by 0 with 3 apart as well.
        DUE.is("the lowest lower one", x.mend(0), 0);
        DUE.is("the lowest other one", x.mend(1), 3);
        DUE.is("SPITE then", x.mend(2), 0);
        DUE.is("mend(3)", x.mend(3), -1);
        DUE.is("mend(-1)", x.mend(-1), -1);
        x.swap(0, 3);
        DUE.is("none better", x.mend(0), -1);
        DUE.is("none better", x.mend(2), -1);
        DUE.is("nothing is done", x.at(0), 3);
        x.spite(0, 2, 3);
        x.spite(1, 3, 3);
        // 3 1 2 0 has 6 by 1 3 and 0 2; apart are those in 3 2 1 0 or 0 1 2 3, where 0 1 have 4.
        DUE.is("lower one", x.mend(0), 0);
        DUE.is("other one", x.mend(1), 3);
        DUE.is("SPITE then", x.mend(2), 4);
    }

    private static void hedge() {
        DUE.promise(27);
        QuiverKin x = new QuiverKin();
        DUE.is("hedge(36, 0)", x.hedge(36, 0), false);
        DUE.is("hedge(-1, 0)", x.hedge(-1, 0), false);
        DUE.is("hedge(0, 4)", x.hedge(0, 4), false);
        DUE.is("hedge(0, -1)", x.hedge(0, -1), false);
        DUE.is("hedge(35, 3)", x.hedge(35, 3), true);
        DUE.is("hedge(0, 2)", x.hedge(0, 2), true);
        DUE.is("hedge(0, 0)", x.hedge(0, 0), true);
        flight(x, 3, 3, 3, 0, 0, 3);
    }

    private static void flight(QuiverKin x, int cell, int way, int... due) {
        for (int what = 0; what < 4; what++) {
            DUE.is("flight(" + cell + ", " + way + ", " + what + ")", x.flight(cell, way, what), due[what]);
        }
        DUE.is("flight(.., 4)", x.flight(cell, way, 4), -1);
        DUE.is("flight(.., -1)", x.flight(cell, way, -1), -1);
    }

    private static void flights() {
        DUE.promise(28);
        QuiverKin x = new QuiverKin();
        DUE.is("flight(36, 0, 0)", x.flight(36, 0, 0), -1);
        DUE.is("flight(-1, 0, 0)", x.flight(-1, 0, 0), -1);
        DUE.is("flight(0, 4, 0)", x.flight(0, 4, 0), -1);
        DUE.is("flight(0, -1, 0)", x.flight(0, -1, 0), -1);
        flight(x, 14, 0, 2, 2, 0, 0);
        flight(x, 14, 1, 3, 17, 0, 1);
        flight(x, 14, 2, 3, 32, 0, 2);
        flight(x, 14, 3, 2, 12, 0, 3);
        flight(x, 0, 3, 0, 0, 0, 3);
        x.hedge(14, 1);
        flight(x, 32, 0, 6, 17, 1, 1);
        flight(x, 12, 1, 4, 2, 1, 0);
        flight(x, 2, 2, 4, 12, 1, 3);
        flight(x, 17, 3, 6, 32, 1, 2);
        flight(x, 14, 2, 3, 32, 0, 2);
        x.hedge(14, 2);
        flight(x, 32, 0, 5, 12, 1, 3);
        flight(x, 12, 1, 5, 32, 1, 2);
        flight(x, 2, 2, 5, 17, 1, 1);
        flight(x, 17, 3, 5, 2, 1, 0);
        x.hedge(14, 3);
        flight(x, 32, 0, 3, 14, 0, 0);
        flight(x, 13, 1, 1, 14, 0, 1);
        flight(x, 14, 1, 3, 17, 0, 1);
        // Around 7, 8, 14, 13 and back to where it began: what stands there is something then.
        x = new QuiverKin();
        x.hedge(8, 2);
        x.hedge(14, 1);
        x.hedge(13, 2);
        x.hedge(7, 3);
        flight(x, 7, 1, 4, 7, 3, 0);
        x.hedge(7, 2);
        flight(x, 7, 1, 5, 6, 4, 3);
        x.hedge(7, 0);
        flight(x, 7, 1, 5, 1, 3, 0);
        x.hedge(7, 1);
        for (int what = 0; what < 4; what++) {
            DUE.is("for ever", x.flight(7, 1, what), -1);
            DUE.is("for ever, the other way", x.flight(14, 0, what), -1);
        }
        // From both sides through one HEDGE: right, up, .. and back on its other side.
        x = new QuiverKin();
        x.hedge(14, 2);
        x.hedge(20, 2);
        x.hedge(21, 1);
        x.hedge(15, 2);
        // 12 13 14(down) 20(right) 21(up) 15(left) 14(up) 8 2
        flight(x, 12, 1, 8, 2, 5, 0);
    }

    private static void comes() {
        DUE.promise(29);
        QuiverKin x = new QuiverKin();
        DUE.is("comes(36, 0)", x.comes(36, 0), -1);
        DUE.is("comes(-1, 0)", x.comes(-1, 0), -1);
        DUE.is("comes(0, 4)", x.comes(0, 4), -1);
        DUE.is("comes(0, -1)", x.comes(0, -1), -1);
        for (int i = 0; i < 6; i++) {
            DUE.is("up", x.comes(i, 0), 30 + i);
            DUE.is("right", x.comes(6 * i + 5, 1), 36 + 6 * i);
            DUE.is("down", x.comes(30 + i, 2), 72 + i);
            DUE.is("left", x.comes(6 * i, 3), 108 + 6 * i + 5);
        }
        DUE.is("not in the midst", x.comes(14, 0), -1);
        DUE.is("not that WAY", x.comes(0, 1), -1);
        x.hedge(14, 3);
        DUE.is("a tree, up", x.comes(14, 0), 32);
        DUE.is("a tree, right", x.comes(14, 1), 36 + 12);
        DUE.is("a tree, down", x.comes(14, 2), 72 + 2);
        DUE.is("a tree, left", x.comes(14, 3), 108 + 17);
        DUE.is("none any more", x.comes(2, 0), -1);
        x.hedge(14, 1);
        DUE.is("turned", x.comes(2, 0), 36 + 12);
        x.hedge(0, 3);
        DUE.is("of its own tree nothing as it begins", x.comes(5, 1), 36);
        // One tree that is come to by two ways of one rim: of like ones the lowest CELL.
        x = new QuiverKin();
        x.hedge(2, 3);
        x.hedge(7, 1);
        x.hedge(1, 2);
        x.hedge(8, 0);
        DUE.is("by WAY, then CELL", x.comes(2, 0), 32);
    }

    private static int row(int a, int b, int c) {
        return 25 * a + 5 * b + c;
    }

    private static void answers() {
        DUE.promise(31);
        QuiverKin x = new QuiverKin();
        int[][] due = {
            {row(1, 2, 3), row(1, 2, 3), 30}, {row(1, 2, 3), row(3, 1, 2), 3}, {row(1, 2, 3), row(1, 3, 2), 12}, {row(1, 2, 3), row(0, 0, 0), 0},
            {row(1, 1, 2), row(1, 2, 1), 12}, {row(1, 1, 2), row(3, 3, 1), 1}, {row(1, 1, 1), row(1, 0, 0), 10}, {row(1, 0, 0), row(0, 1, 1), 2},
            {row(1, 1, 0), row(0, 0, 1), 2}, {row(4, 4, 0), row(4, 0, 4), 12}, {row(4, 4, 3), row(4, 4, 0), 20}, {row(0, 1, 2), row(2, 3, 0), 2},
            {row(2, 2, 1), row(0, 2, 2), 11}, {124, 124, 30}, {0, 124, 0}
        };
        for (int[] d : due) {
            DUE.is("answer(" + d[0] + ", " + d[1] + ")", x.answer(d[0], d[1]), d[2]);
            DUE.is("answer(" + d[1] + ", " + d[0] + ")", x.answer(d[1], d[0]), d[2]);
        }
        DUE.is("answer(125, 0)", x.answer(125, 0), -1);
        DUE.is("answer(0, 125)", x.answer(0, 125), -1);
        DUE.is("answer(-1, 0)", x.answer(-1, 0), -1);
        DUE.is("answer(0, -1)", x.answer(0, -1), -1);
    }

    private static void guesses() {
        DUE.promise(30);
        QuiverKin x = new QuiverKin();
        int[][] wrong = {{-2, 0, 0}, {125, 0, 0}, {0, -1, 0}, {0, 0, -1}, {0, 4, 0}, {0, 0, 4}, {0, 2, 2}, {0, -1, 2}, {0, 3, 1}, {0, Integer.MAX_VALUE, 1}};
        for (int[] w : wrong) {
            DUE.is("guess(" + w[0] + ", " + w[1] + ", " + w[2] + ")", x.guess(w[0], w[1], w[2]), -2);
        }
        DUE.is("none", x.about(4), 0);
        for (int i = 1; i <= 6; i++) {
            DUE.is("guess", x.guess(124, 0, i % 2 == 0 ? 0 : 3), i);
        }
        DUE.is("the 7th", x.guess(124, 0, 0), -2);
        DUE.promise(32);
        DUE.is("none fits", x.fits(), 0);
        DUE.promise(33);
        DUE.is("fit(0)", x.fit(0), -1);
        DUE.promise(34);
        DUE.is("nothing to ask", x.ask(), -1);
        DUE.promise(30);
        DUE.is("none any more", x.guess(-1, -5, 77), 0);
        DUE.promise(32);
        DUE.is("all fit", x.fits(), 125);
        DUE.promise(30);
        DUE.is("guess(012, 2 right)", x.guess(row(0, 1, 2), 2, 0), 1);
        DUE.promise(32);
        // One of three places is one of two others (not of the row, or it would be near .. it is still no NEAR: 0 1 0).
        DUE.is("fits", x.fits(), 12);
        DUE.promise(33);
        int[] fit = {row(0, 0, 2), row(0, 1, 0), row(0, 1, 1), row(0, 1, 3), row(0, 1, 4), row(0, 2, 2), row(0, 3, 2), row(0, 4, 2),
            row(1, 1, 2), row(2, 1, 2), row(3, 1, 2), row(4, 1, 2)};
        for (int i = 0; i < 12; i++) {
            DUE.is("fit(" + i + ")", x.fit(i), fit[i]);
        }
        DUE.is("fit(12)", x.fit(12), -1);
        DUE.is("fit(-1)", x.fit(-1), -1);
        DUE.promise(30);
        DUE.is("2 right and 1 near can't be, but is told", x.guess(row(0, 1, 2), 2, 1), 2);
        DUE.promise(32);
        DUE.is("fits", x.fits(), 0);
    }

    private static void ask() {
        DUE.promise(34);
        QuiverKin x = new QuiverKin();
        DUE.is("without GUESSES all fit", x.ask(), row(0, 1, 2));
        askedWell(x);
        x.guess(row(0, 0, 0), 3, 0);
        DUE.is("one fits", x.ask(), -1);
        x = new QuiverKin();
        x.guess(row(0, 0, 0), 2, 0);
        x.guess(row(0, 0, 1), 2, 0);
        x.guess(row(0, 0, 2), 2, 0);
        // 003 and 004 fit; each tells them apart, and the lowest that does fits not: a ROW that fits goes ahead.
        DUE.is("fits", x.fits(), 2);
        DUE.is("the lowest that fits", x.ask(), row(0, 0, 3));
        x = new QuiverKin();
        x.guess(row(0, 0, 0), 2, 0);
        DUE.is("fits", x.fits(), 12);
        // 000 itself can't be, but it would leave all 12; 012 leaves 4 at most, by 10, 11, 20 and so on.
        DUE.is("the most alike", most(fitting(x), x.ask()), 4);
        askedWell(x);
        x.guess(row(0, 0, 1), 1, 2);
        x.guess(-1, 0, 0);
        x.guess(row(0, 1, 2), 0, 3);
        DUE.is("201 and 120 fit", x.fits(), 2);
        DUE.is("the lowest that fits", x.ask(), row(1, 2, 0));
        for (int first = 0; first < 125; first += 6) {
            x = new QuiverKin();
            x.guess(first, 1, 0);
            askedWell(x);
            x.guess(124 - first, 0, 1);
            askedWell(x);
        }
    }

    private static List<Integer> fitting(QuiverKin x) {
        List<Integer> rows = new ArrayList<>();
        int fits = x.fits();
        for (int i = 0; i < fits; i++) {
            rows.add(x.fit(i));
        }
        return rows;
    }

    /** That no ROW leaves fewer, and of like ones none that should go ahead does. */
    private static void askedWell(QuiverKin x) {
        int asked = x.ask();
        List<Integer> fitting = fitting(x);
        if (fitting.size() < 2) {
            DUE.is("one fits, or none", asked, -1);
            return;
        }
        int most = most(fitting, asked);
        boolean askedFits = fitting.contains(asked);
        for (int row = 0; row < 125; row++) {
            boolean ahead = askedFits ? row < asked && fitting.contains(row) : row < asked || fitting.contains(row);
            int there = most(fitting, row);
            DUE.is("ask() is " + asked + " but " + row, there < most || ahead && there == most, false);
        }
    }

    /** How many of these are alike at most by the ANSWER to a ROW. */
    private static int most(List<Integer> fitting, int row) {
        QuiverKin x = new QuiverKin();
        int[] alike = new int[40];
        int most = 0;
        for (int real : fitting) {
            int n = ++alike[x.answer(row, real)];
            most = Math.max(most, n);
        }
        return most;
    }

    private static void gains() {
        DUE.promise(35);
        QuiverKin x = new QuiverKin();
        int[][] wrong = {{2, 0, 0, 0}, {-1, 0, 0, 0}, {0, 2, 0, 0}, {0, -1, 0, 0}, {0, 0, 100, 0}, {0, 0, -100, 0}, {0, 0, 0, 100}, {0, 0, 0, -100}};
        for (int[] w : wrong) {
            DUE.is("gain", x.gain(w[0], w[1], w[2], w[3]), false);
        }
        DUE.promise(36);
        DUE.is("all rest", x.rests(), 15);
        DUE.promise(35);
        DUE.is("gain(0, 1, 99, -99)", x.gain(0, 1, 99, -99), true);
        DUE.promise(36);
        // By 0 1 the second gains more with 0; by 1 1 the first gains more with 0.
        DUE.is("rests", x.rests(), 1 + 4);
        x.gain(0, 1, -99, 99);
        DUE.is("rests", x.rests(), 8 + 4);
        x.gain(0, 1, 0, 0);
        x.gain(1, 0, 5, 0);
        // Only 0 0 is not at rest for the first.
        DUE.is("rests", x.rests(), 2 + 4 + 8);
        x.gain(1, 0, 0, 5);
        DUE.is("rests", x.rests(), 1 + 2 + 4);
    }

    private static void mixed(QuiverKin x, int firstUp, int firstLow, int secondUp, int secondLow) {
        DUE.is("mixed(true, false)", x.mixed(true, false), firstUp);
        DUE.is("mixed(true, true)", x.mixed(true, true), firstLow);
        DUE.is("mixed(false, false)", x.mixed(false, false), secondUp);
        DUE.is("mixed(false, true)", x.mixed(false, true), secondLow);
    }

    private static void mixed() {
        DUE.promise(37);
        QuiverKin x = new QuiverKin();
        mixed(x, -1, -1, -1, -1);
        // The first does 1 by p: the second gains 2 (1 - p) by 0 and 6 p by 1: p = 1 / 4.
        // The second does 1 by q: the first gains 4 q by 0 and 6 (1 - q) by 1: q = 3 / 5.
        x.gain(0, 0, 0, 2);
        x.gain(0, 1, 4, 0);
        x.gain(1, 0, 6, 0);
        x.gain(1, 1, 0, 6);
        mixed(x, 1, 4, 3, 5);
        // Not strictly between: the second gains as much by 0 as by 1 when the first does 0 for sure.
        x.gain(0, 0, 0, 0);
        mixed(x, -1, -1, -1, -1);
        x.gain(0, 0, 0, -2);
        mixed(x, -1, -1, -1, -1);
        x.gain(0, 0, 0, 2);
        x.gain(1, 1, 0, 0);
        mixed(x, -1, -1, -1, -1);
        x.gain(1, 1, 4, 6);
        mixed(x, -1, -1, -1, -1);
        x.gain(1, 1, 5, 6);
        mixed(x, -1, -1, -1, -1);
        x.gain(1, 1, -99, 99);
        // p: 2 (1 - p) = 99 p, 2 / 101; q: 4 q = 6 (1 - q) - 99 q, 6 / 109.
        mixed(x, 2, 101, 6, 109);
        x.gain(0, 0, -99, 99);
        x.gain(0, 1, 99, -99);
        x.gain(1, 0, 99, -99);
        mixed(x, 1, 2, 1, 2);
    }

    private static void sayings() {
        DUE.promise(38);
        QuiverKin x = new QuiverKin();
        int[][] wrong = {{-2, 1}, {100, 1}, {0, 0}, {0, 100}, {0, -1}, {Integer.MIN_VALUE, 1}};
        for (int[] w : wrong) {
            DUE.is("saying(" + w[0] + ", " + w[1] + ")", x.saying(w[0], w[1]), -2);
        }
        for (int i = 1; i <= 8; i++) {
            DUE.is("saying", x.saying(99, 99), i);
        }
        DUE.is("the 9th", x.saying(1, 1), -2);
        DUE.promise(39);
        DUE.is("all", x.least(792, false), 255);
        DUE.is("all cost", x.least(792, true), 792);
        DUE.is("more than all", x.least(793, true), -1);
        DUE.promise(38);
        DUE.is("none any more", x.saying(-1, 7), 0);
        DUE.is("none", x.about(5), 0);
    }

    private static void least(QuiverKin x, int need, int set, int costs) {
        DUE.is("least(" + need + ", false)", x.least(need, false), set);
        DUE.is("least(" + need + ", true)", x.least(need, true), costs);
    }

    private static void least() {
        DUE.promise(39);
        QuiverKin x = new QuiverKin();
        least(x, 0, 0, 0);
        least(x, 1, -1, -1);
        least(x, -1, -1, -1);
        least(x, 1000, -1, -1);
        x.saying(0, 5);
        least(x, 0, 0, 0);
        least(x, 5, 1, 0);
        least(x, 6, -1, -1);
        x.saying(3, 4);
        x.saying(1, 2);
        x.saying(2, 2);
        x.saying(3, 4);
        // 4 by 1 costs 0; 9 by 0 and 1 or 0 and 4 costs 3, by 0, 2 and 3 as well: of the fewest the lowest set.
        least(x, 4, 1, 0);
        least(x, 7, 5, 1);
        least(x, 9, 3, 3);
        least(x, 10, 7, 4);
        least(x, 17, 31, 9);
        least(x, 18, -1, -1);
        x.saying(3, 6);
        // 11 by 0 and 5 alone costs 3.
        least(x, 11, 33, 3);
        least(x, 999, -1, -1);
    }

    private static void near(int odds, int from, int limit, long upper, long lower) {
        QuiverKin x = new QuiverKin();
        DUE.is("near(" + odds + ", " + from + ", " + limit + ", false)", x.near(odds, from, limit, false), upper);
        DUE.is("near(" + odds + ", " + from + ", " + limit + ", true)", x.near(odds, from, limit, true), lower);
    }

    private static void near() {
        DUE.promise(40);
        near(0, 1, 2, -1, -1);
        near(10, 1, 2, -1, -1);
        near(5, -1, 2, -1, -1);
        near(5, 3, 2, -1, -1);
        near(5, 0, 0, -1, -1);
        near(5, 1, 13, -1, -1);
        near(5, 0, 1, 0, 1);
        near(5, 1, 1, 1, 1);
        near(9, 0, 12, 0, 1);
        near(1, 12, 12, 1, 1);
        near(5, 3, 12, 1, 4);
        near(5, 5, 12, 5, 12);
        near(9, 1, 2, 9, 10);
        near(1, 1, 2, 1, 10);
        near(6, 2, 3, 15, 19);
        near(4, 1, 3, 4, 19);
        // 1 - 1 / 9 to 1 - 1 / 9^12 is 8 * 9^11 / (9^12 - 1), and 9^12 - 1 is 8 times 35303692060.
        near(9, 1, 12, 31381059609L, 35303692060L);
        near(1, 1, 12, 1L, 35303692060L);
        near(8, 1, 12, 4194304L, 5592405L);
    }

    private static void game() {
        DUE.promise(41);
        QuiverKin x = new QuiverKin();
        for (int tall = 1; tall <= 5; tall++) {
            for (int wide = 1; wide <= 5; wide++) {
                DUE.is("game(" + tall + ", " + wide + ")", x.game(tall, wide), tall * wide == 1 ? 0 : 1);
            }
        }
        DUE.is("game(0, 1)", x.game(0, 1), -1);
        DUE.is("game(1, 0)", x.game(1, 0), -1);
        DUE.is("game(6, 5)", x.game(6, 5), -1);
        DUE.is("game(5, 6)", x.game(5, 6), -1);
    }

    private static void bite(int shape, int row, int column) {
        QuiverKin x = new QuiverKin();
        DUE.is("bite(" + shape + ", true)", x.bite(shape, true), row);
        DUE.is("bite(" + shape + ", false)", x.bite(shape, false), column);
    }

    private static void bites() {
        DUE.promise(42);
        bite(0, -1, -1);
        bite(-1, -1, -1);
        bite(55556, -1, -1);
        bite(10000, -1, -1);
        bite(20000, 0, 1);
        bite(50000, 0, 1);
        bite(11000, 1, 0);
        bite(11111, 1, 0);
        bite(21000, -1, -1);
        bite(22000, 1, 1);
        bite(55555, 1, 1);
        bite(44440, 1, 1);
        bite(12000, -1, -1);
        bite(1, -1, -1);
        bite(10100, -1, -1);
        bite(54321 + 5, -1, -1);
        bite(49000, -1, -1);
        bite(32000, -1, -1);
        bite(33000, 1, 2);
        bite(31000, 0, 2);
        // A row leads to 21 from below: of 31 the lowest row is 0; of 211 and 2111 it is 2 and 2.
        bite(21100, 2, 0);
        bite(21110, 2, 0);
        allBites();
    }

    /** Every shape by search: a bite is the first that leaves the other one without any. */
    private static void allBites() {
        boolean[] wins = new boolean[55556];
        for (int shape = 1; shape <= 55555; shape++) {
            if (!falls(shape)) {
                continue;
            }
            int due = -1;
            for (int i = 24; i >= 0; i--) {
                int left = bitten(shape, i / 5, i % 5);
                if (left >= 0 && left != 0 && !wins[left]) {
                    due = i;
                }
            }
            wins[shape] = due >= 0;
            QuiverKin x = new QuiverKin();
            DUE.is("bite(" + shape + ", true)", x.bite(shape, true), due < 0 ? -1 : due / 5);
            DUE.is("bite(" + shape + ", false)", x.bite(shape, false), due < 0 ? -1 : due % 5);
        }
    }

    private static boolean falls(int shape) {
        String digits = String.format("%05d", shape);
        for (int i = 1; i < 5; i++) {
            if (digits.charAt(i) > digits.charAt(i - 1)) {
                return false;
            }
        }
        return true;
    }

    private static int bitten(int shape, int row, int column) {
        char[] digits = String.format("%05d", shape).toCharArray();
        if (digits[row] - '0' <= column) {
            return -1;
        }
        for (int i = row; i < 5; i++) {
            digits[i] = (char) Math.min(digits[i], '0' + column);
        }
        return Integer.parseInt(new String(digits));
    }
}
