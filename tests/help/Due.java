import java.util.List;

/** Counts the answers that are not the ones that are due. */
final class Due {
    private int promise;
    private int asked;
    private int wrong;

    void promise(int number) {
        promise = number;
    }

    void is(String what, long got, long want) {
        asked++;
        if (got != want) {
            wrong++;
            System.out.println(where() + what + " answered " + got + ", due is " + want);
        }
    }

    void is(String what, boolean got, boolean want) {
        is(what, got ? 1 : 0, want ? 1 : 0);
    }

    /** Two rows of answers. */
    void alike(String what, List<String> got, List<String> want) {
        is(what + ": how many answers", got.size(), want.size());
        for (int i = 0; i < got.size() && i < want.size(); i++) {
            asked++;
            if (!got.get(i).equals(want.get(i))) {
                wrong++;
                System.out.println(where() + what + ": " + got.get(i) + ", due is " + want.get(i));
            }
        }
    }

    private String where() {
        return promise == 0 ? "" : "promise " + promise + ": ";
    }

    void end(String test) {
        System.out.println(test + ": " + asked + " answers, " + wrong + " not as due");
        if (wrong > 0) {
            System.exit(1);
        }
    }

    /** A table at which these are told, by TEMPER and KEPT. */
    static QuiverKin table(int... temperAndKept) {
        QuiverKin x = new QuiverKin();
        for (int i = 0; i < temperAndKept.length; i += 2) {
            x.kin(temperAndKept[i], temperAndKept[i + 1]);
        }
        return x;
    }

    /** A text on the tape, alone there. */
    static void tape(QuiverKin x, String text) {
        x.end(0);
        for (int i = 0; i < text.length(); i += 20) {
            int[] words = new int[5];
            for (int k = 0; k < 20; k++) {
                words[k / 4] = words[k / 4] << 8 | (i + k < text.length() ? text.charAt(i + k) & 255 : 0);
            }
            x.feed(words[0], words[1], words[2], words[3], words[4]);
        }
        x.end(text.length());
    }

    static int text(QuiverKin x, String text) {
        tape(x, text);
        return x.text();
    }

    /** The same, and it is THE TEXT. */
    static QuiverKin ruled(QuiverKin x, String text) {
        x.by(text(x, text));
        return x;
    }
}
