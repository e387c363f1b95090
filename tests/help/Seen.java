import java.util.ArrayList;
import java.util.List;

/** What can be seen of an object, answer by answer. */
final class Seen {
    private final QuiverKin x;
    private final List<String> answers = new ArrayList<>();

    private Seen(QuiverKin x) {
        this.x = x;
    }

    /** By some 170 calls, which change nothing. */
    static List<String> now(QuiverKin x) {
        Seen seen = new Seen(x);
        seen.tape();
        seen.house();
        return seen.answers;
    }

    /** All of it, by some 310 calls; the object is of no use then: its STEPS are taken back, and it is BACK. */
    static List<String> all(QuiverKin x) {
        Seen seen = new Seen(x);
        seen.tape();
        seen.house();
        seen.steps();
        seen.image();
        return seen.answers;
    }

    /** The same, but for the tape and the latest FAULT. */
    static List<String> held(QuiverKin x) {
        Seen seen = new Seen(x);
        seen.house();
        seen.steps();
        seen.image();
        return seen.answers;
    }

    private void note(String call, long answer) {
        answers.add(call + " = " + answer);
    }

    private void tape() {
        note("about(7)", x.about(7));
        note("fault(0)", x.fault(0));
        note("fault(1)", x.fault(1));
    }

    private void house() {
        for (int what = 0; what < 4; what++) {
            note("is(" + what + ")", x.is(what));
        }
        for (int what = 0; what < 7; what++) {
            note("about(" + what + ")", x.about(what));
        }
        for (int kin = 0; kin < 6; kin++) {
            for (int what = 0; what < 7; what++) {
                note("of(" + kin + ", " + what + ")", x.of(kin, what));
            }
            note("at(" + kin + ")", x.at(kin));
            note("ledger(" + kin + ")", x.ledger(kin));
            note("foretold(1, " + kin + ")", x.foretold(1, kin));
        }
        note("book(-1, 0)", x.book(-1, 0));
        for (int line = 0; line < 25; line += 8) {
            for (int what = 0; what < 4; what++) {
                note("book(" + line + ", " + what + ")", x.book(line, what));
            }
        }
        note("fullest()", x.fullest());
        note("calm()", x.calm());
        thought();
    }

    private void thought() {
        note("spiteNow()", x.spiteNow());
        note("round(true)", x.round(true));
        note("round(false)", x.round(false));
        note("seatings()", x.seatings());
        for (int i = 0; i < 3; i++) {
            note("seating(" + (i + 1) + ")", x.seating(i + 1));
            note("mend(" + i + ")", x.mend(i));
        }
        for (int cell = 0; cell < 36; cell++) {
            note("flight from " + cell, x.flight(cell, cell % 4, 1));
        }
        note("fits()", x.fits());
        note("fit(0)", x.fit(0));
        note("ask()", x.ask());
        note("rests()", x.rests());
        note("mixed(true, false)", x.mixed(true, false));
        note("mixed(true, true)", x.mixed(true, true));
        note("mixed(false, false)", x.mixed(false, false));
        note("mixed(false, true)", x.mixed(false, true));
        for (int need = 1; need < 8; need += 3) {
            note("least(" + need + ", false)", x.least(need, false));
            note("least(" + need + ", true)", x.least(need, true));
        }
        note("whose()", x.whose());
    }

    private void steps() {
        for (int i = 0; i <= 30; i++) {
            note("undo, the " + i + "th", x.undo());
            note("is(0) then", x.is(0));
            note("is(1) then", x.is(1));
            note("is(2) then", x.is(2));
        }
    }

    private void image() {
        note("back()", x.back());
        for (int what = 0; what < 4; what++) {
            note("is(" + what + ") of the image", x.is(what));
        }
        for (int what = 0; what < 7; what++) {
            note("about(" + what + ") of the image", x.about(what));
        }
        note("spiteNow() of the image", x.spiteNow());
    }
}
