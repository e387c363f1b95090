/** Objects with something of everything, so that a call that is to change nothing has much that it could change. */
final class Full {
    private static final int[] TEMPERS = {9, 0, 5, 2, 7, 1};
    private static final int[] KEPT = {4, 0, 6, 0, 99, 7};

    /** With so many KIN, STEPS, lines of BOOK, TEXTS, and all else that is told; some 90 calls. */
    static QuiverKin house(int kin) {
        QuiverKin x = new QuiverKin();
        begin(x, kin);
        x.image();
        goOn(x);
        return x;
    }

    static void begin(QuiverKin x, int kin) {
        for (int i = 0; i < kin; i++) {
            x.kin(TEMPERS[i], KEPT[i]);
        }
        Due.ruled(x, "reaches 3+who;bears 6-loose/9;strap 0;");
        x.dinner(1);
        x.spite(0, 1, 3);
        x.hedge(9, 2);
    }

    static void goOn(QuiverKin x) {
        Due.text(x, "kin 1 kept 1;reach 0;dinner 2;");
        x.reach(0);
        x.reach(2);
        x.swap(0, 1);
        x.swap(2, 0);
        x.strap(1);
        x.strap(3);
        x.dinner(9);
        x.down(0, 1);
        x.years(77, 5);
        for (int a = 0; a < 6; a++) {
            for (int b = 0; b < a; b++) {
                x.spite(a, b, 7 * a + 31 * b);
            }
        }
        for (int cell = 7; cell < 30; cell += 3) {
            x.hedge(cell, 1 + cell % 2);
        }
        x.gain(0, 0, -5, 2);
        x.gain(0, 1, 6, -1);
        x.gain(1, 0, 3, -7);
        x.gain(1, 1, -2, 8);
        x.guess(7, 1, 1);
        x.guess(38, 0, 1);
        x.saying(5, 3);
        x.saying(4, 3);
        x.saying(2, 1);
        x.told(0, 3);
        x.told(1, 4);
        Due.text(x, "reach 9;");
        Due.tape(x, "strap 0");
    }

    /** The same house of six, where this one is STRAPPED. */
    static QuiverKin strapped(int kin) {
        QuiverKin x = house(6);
        if (x.of(kin, 3) == 0) {
            x.strap(kin);
        }
        return x;
    }

    /** Two KIN behind so many DINNERS (9960 .. 9999), in which nothing was REACHED; some 170 calls. */
    static QuiverKin late(int dinners) {
        QuiverKin x = Due.ruled(Due.table(3, 4, 5, 0), "reaches if dinner<9960 then 0 else 10 end;bears 99;");
        for (int i = 0; i < 166; i++) {
            x.dinner(60);
        }
        if (dinners > 9960) {
            x.dinner(dinners - 9960);
        }
        return x;
    }
}
