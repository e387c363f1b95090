/** Promises 1 to 20 and 43 to 50: the kin, the tape, the steps, what is so, TOLD, the image. */
public final class PromisesOfSteps {
    private static final Due DUE = new Due();

    public static void main(String[] args) {
        newObject();
        kin();
        feedAndEnd();
        text();
        faults();
        by();
        reach();
        downStrapSwap();
        dinner();
        dinnerByLaws();
        loosing();
        lastDinner();
        played();
        years();
        undo();
        of();
        sums();
        at();
        book();
        foretold();
        told();
        fullestCalmLedger();
        imageAndBack();
        about();
        DUE.end("PromisesOfSteps");
    }

    private static void newObject() {
        DUE.promise(1);
        QuiverKin x = new QuiverKin();
        for (int what = 0; what < 8; what++) {
            DUE.is("about(" + what + ")", x.about(what), what == 2 ? -1 : 0);
        }
        DUE.is("is(0)", x.is(0), 0);
        DUE.is("is(1)", x.is(1), 421);
        DUE.is("is(2)", x.is(2), 0);
        DUE.is("is(3)", x.is(3), 0);
        DUE.is("book(-1, 0)", x.book(-1, 0), 0);
        DUE.is("rests()", x.rests(), 15);
        DUE.is("undo()", x.undo(), -1);
        for (int cell = 0; cell < 36; cell++) {
            DUE.is("flight from " + cell, x.flight(cell, 1, 0), 5 - cell % 6);
        }
        x.kin(1, 1);
        x.dinner(2);
        x.hedge(0, 3);
        DUE.is("back()", x.back(), 0);
        DUE.is("about(0) behind back", x.about(0), 0);
        DUE.is("is(1) behind back", x.is(1), 421);
        DUE.is("about(3) behind back", x.about(3), 0);
        DUE.is("flight behind back", x.flight(1, 3, 2), 0);
        DUE.is("NONE", QuiverKin.NONE, -1);
    }

    private static void kin() {
        DUE.promise(2);
        QuiverKin x = new QuiverKin();
        int[][] wrong = {{-1, 0}, {10, 0}, {0, -1}, {0, 100}, {Integer.MIN_VALUE, 5}, {5, Integer.MAX_VALUE}};
        for (int[] w : wrong) {
            DUE.is("kin(" + w[0] + ", " + w[1] + ")", x.kin(w[0], w[1]), -1);
        }
        DUE.is("kin(0, 0)", x.kin(0, 0), 0);
        DUE.is("kin(9, 99)", x.kin(9, 99), 1);
        x.swap(0, 1);
        x.strap(1);
        DUE.is("kin(3, 4)", x.kin(3, 4), 2);
        DUE.is("its TEMPER", x.of(2, 0), 3);
        DUE.is("its KEPT", x.of(2, 1), 4);
        DUE.is("its SEAT", x.of(2, 2), 2);
        DUE.is("not STRAPPED", x.of(2, 3), 0);
        DUE.is("at(0) still", x.at(0), 1);
        DUE.is("kin(9, 99) and no STEP", x.about(3), 2);
        x.kin(1, 1);
        x.kin(1, 1);
        DUE.is("the 6th", x.kin(1, 1), 5);
        DUE.is("the 7th", x.kin(1, 1), -1);
        DUE.is("how many", x.about(0), 6);
    }

    private static void feedAndEnd() {
        DUE.promise(3);
        QuiverKin x = new QuiverKin();
        for (int i = 1; i <= 15; i++) {
            DUE.is("feed", x.feed(0, 0, 0, 0, 0), 20 * i);
        }
        DUE.is("feed beyond 300", x.feed(0, 0, 0, 0, 0), -1);
        DUE.is("none came", x.about(7), 300);
        DUE.promise(4);
        DUE.is("end(301)", x.end(301), -1);
        DUE.is("end(-1)", x.end(-1), -1);
        DUE.is("end(MIN)", x.end(Integer.MIN_VALUE), -1);
        DUE.is("nothing done", x.about(7), 300);
        DUE.is("end(300)", x.end(300), 300);
        DUE.is("end(281)", x.end(281), 281);
        DUE.promise(3);
        DUE.is("feed to 301", x.feed(0, 0, 0, 0, 0), -1);
        DUE.promise(4);
        DUE.is("end(282)", x.end(282), -1);
        DUE.is("end(280)", x.end(280), 280);
        DUE.promise(3);
        DUE.is("feed to 300", x.feed(1, 2, 3, 4, 5), 300);
        DUE.promise(4);
        DUE.is("end(0)", x.end(0), 0);
        DUE.is("end(1)", x.end(1), -1);
        DUE.promise(3);
        // "down 5 by 1;" and blanks: the highest byte of a first.
        DUE.is("feed", x.feed(0x646f776e, 0x20352062, 0x7920313b, 0x20202020, 0x0a0a200a), 20);
        DUE.is("read so", x.text(), 0);
        DUE.is("emptied", x.about(7), 0);
        x.feed(0x20202020, -1, -1, -1, -1);
        DUE.is("byte 255", x.text(), -1);
        DUE.is("its place", x.fault(1), 4);
    }

    private static void text() {
        DUE.promise(5);
        QuiverKin x = new QuiverKin();
        DUE.is("the empty tape", x.text(), 0);
        Due.tape(x, "reach 0; x");
        DUE.is("a FAULT", x.text(), -1);
        DUE.is("the tape is empty then", x.about(7), 0);
        DUE.is("about(1)", x.about(1), 1);
        DUE.is("the second", Due.text(x, "kin 1 kept 2;"), 1);
        DUE.is("the tape is empty then", x.about(7), 0);
        DUE.is("blanks", Due.text(x, "  \n \n"), 2);
        StringBuilder long300 = new StringBuilder("bears 1;");
        while (long300.length() < 300) {
            long300.append(' ');
        }
        DUE.is("of 300 bytes", Due.text(x, long300.toString()), 3);
        Due.tape(x, "reach 0; x");
        DUE.is("there are 4", x.text(), -1);
        DUE.is("the tape stays", x.about(7), 10);
        DUE.is("and was not read", x.fault(0), 0);
        DUE.is("about(1)", x.about(1), 4);
    }

    private static void fault(String text, int fault, int place) {
        QuiverKin x = new QuiverKin();
        DUE.is("text of " + text, Due.text(x, text), fault == 0 ? 0 : -1);
        DUE.is("fault(0) of " + text, x.fault(0), fault);
        DUE.is("fault(1) of " + text, x.fault(1), place);
    }

    private static void faults() {
        DUE.promise(6);
        QuiverKin x = new QuiverKin();
        DUE.is("fault(0) ahead of any", x.fault(0), -1);
        DUE.is("fault(1) ahead of any", x.fault(1), -1);
        Due.text(x, "  nothing");
        DUE.is("fault(0)", x.fault(0), 1);
        DUE.is("fault(1)", x.fault(1), 2);
        DUE.is("fault(2)", x.fault(2), -1);
        DUE.is("fault(-1)", x.fault(-1), -1);
        x.back();
        DUE.is("fault(0) behind back", x.fault(0), 1);
        Due.text(x, "reach 1;");
        DUE.is("fault(0) without", x.fault(0), 0);
        DUE.is("fault(1) without", x.fault(1), -1);
        stands();
        cantStand();
        numbers();
        depths();
        names();
        manyClauses();
    }

    private static void stands() {
        fault("kin1kept2;reach3;down0by1;swap1with2;", 0, -1);
        fault("swap 1 with 1;", 0, -1);
        fault("reaches - - 1 + across quiver who * (kept - temper) / seat;bears-loose;", 0, -1);
        fault("reaches beside\n+\ndinner;", 0, -1);
        fault("bears if not not 1<2 and 1<=2 or 1>2 and 1>=2 or 1=2 and not 1#2 then 1 else 2 end;", 0, -1);
        fault("bears if 1<=-2 then 1 else 2 end;", 0, -1);
        fault("kin 000000000000000000000009 kept 0000000099;", 0, -1);
        fault("dinner 60;dinner 1;strap 5;down 5 by 99;", 0, -1);
    }

    private static void cantStand() {
        fault("reach", 1, 5);
        fault("reach 1  ", 1, 9);
        fault("Reach 1;", 1, 0);
        fault("reach 1;;", 1, 8);
        fault("reachs 1;", 1, 0);
        fault("reachesx 1;", 1, 0);
        fault("reachz 1;", 1, 0);
        fault("reacha 1;", 1, 0);
        fault("reachA 1;", 1, 0);
        fault("reachZ 1;", 1, 0);
        fault("reach@ 1;", 1, 5);
        fault("reach[ 1;", 1, 5);
        fault("reach` 1;", 1, 5);
        fault("reach{ 1;", 1, 5);
        fault("reach_ 1;", 1, 5);
        fault("reach 1/;", 1, 7);
        fault("reach 1:;", 1, 7);
        fault("kept 1;", 1, 0);
        fault("7 kin;", 1, 0);
        fault("kin 1 kept;", 1, 10);
        fault("kin 1 2;", 1, 6);
        fault("kin kin kept 2;", 1, 4);
        fault("down 1 1;", 1, 7);
        fault("swap 1 by 2;", 1, 7);
        fault("down 1 with 2;", 1, 7);
        fault("strap 1 2;", 1, 8);
        fault("strap -1;", 1, 6);
        fault("reaches ;", 1, 8);
        fault("reaches 1 2;", 1, 10);
        fault("reaches (1;", 1, 10);
        fault("reaches 1);", 1, 9);
        fault("reaches 1 + * 2;", 1, 12);
        fault("reaches 1 +;", 1, 11);
        fault("reaches reach;", 1, 8);
        fault("reaches not 1;", 1, 8);
        fault("reaches 1 < 2;", 1, 10);
        fault("reaches if (1 < 2) then 1 else 2 end;", 1, 14);
        fault("reaches if 1 < = 2 then 1 else 2 end;", 1, 15);
        fault("reaches if 1 < 2 < 3 then 1 else 2 end;", 1, 17);
        fault("reaches if 1 < 2 else 2 end;", 1, 17);
        fault("reaches if 1 < 2 then 1 end;", 1, 24);
        fault("reaches if 1 < 2 then 1 else 2;", 1, 30);
        fault("reaches if 1 then 1 else 2 end;", 1, 13);
        fault("reaches if 1 => 2 then 1 else 2 end;", 1, 14);
        fault("reaches 1 ! 2;", 1, 10);
        fault("reaches 1 \t2;", 1, 10);
        fault("reach 1;" + (char) 233, 1, 8);
        fault("reach 1" + (char) 0 + ";", 1, 7);
        fault("reaches across;", 1, 14);
        fault("reaches 3 dinner;", 1, 10);
        fault("bears 5 99999;", 1, 8);
    }

    private static void numbers() {
        fault("kin 10 kept 1;", 2, 4);
        fault("kin 9 kept 100;", 2, 11);
        fault("reach 6;", 2, 6);
        fault("down 6 by 1;", 2, 5);
        fault("down 5 by 0;", 2, 10);
        fault("down 5 by 100;", 2, 10);
        fault("strap 6;", 2, 6);
        fault("swap 6 with 1;", 2, 5);
        fault("swap 1 with 6;", 2, 12);
        fault("dinner 0;", 2, 7);
        fault("dinner 61;", 2, 7);
        fault("bears 9999;", 0, -1);
        fault("bears 10000;", 2, 6);
        fault("bears 1+4294967297;", 2, 8);
        fault("reach 4294967297;", 2, 6);
        fault("reach 18446744073709551617;", 2, 6);
    }

    private static void depths() {
        fault("bears ((((((((1))))))));", 0, -1);
        fault("bears (((((((((1)))))))));", 3, 14);
        fault("bears --------1;", 0, -1);
        fault("bears ---------1;", 3, 14);
        fault("bears 1-1-1-1-1-1-1-1-1-1;", 0, -1);
        fault("bears (1)+(1)+(1)+(1)+(1)+(1)+(1)+(1)+(1)+(1);", 0, -1);
        fault("bears ((((((((1))))))))+((((((((1))))))));", 0, -1);
        fault("bears across quiver - ( across quiver - ( 1));", 0, -1);
        fault("bears across quiver - ( across quiver - ( - 1));", 3, 42);
        fault("bears if not not not not not not not 1<2 then 1 else ((((((( 2))))))) end;", 0, -1);
        fault("bears if not not not not not not not not 1<2 then 1 else 2 end;", 3, 37);
        fault("bears if not not not not not not not (1)<2 then 1 else 2 end;", 3, 37);
        fault("bears if not 1<2 and not 1<2 and not not not not not not not 1<2 then 1 else 2 end;", 0, -1);
        fault("bears if 1<2 then 1 else ((((((((2)))))))) end;", 3, 32);
        fault("bears (((((((( if 1<2 then 1 else 2 end))))))));", 3, 15);
        fault("bears (((((((( not 1))))))));", 1, 15);
        fault("bears (((((((( across 1))))))));", 3, 15);
        fault("bears (((((((( quiver 1))))))));", 3, 15);
    }

    private static void names() {
        fault("reaches 1;reaches 2;", 4, 10);
        fault("bears 1;reaches 2;bears 3;", 4, 18);
        fault("bears 1;bears", 4, 8);
        fault("bears beside;", 5, 6);
        fault("reaches loose;", 5, 8);
        fault("reaches 1 loose;", 1, 10);
        fault("bears 1;reaches loose;", 5, 16);
        fault("reaches beside;bears beside;", 5, 21);
        fault("bears besides;", 1, 6);
    }

    private static void manyClauses() {
        StringBuilder many = new StringBuilder("reaches 1;");
        for (int i = 0; i < 23; i++) {
            many.append("reach 1;");
        }
        fault(many.toString(), 0, -1);
        fault(many + "strap 0;", 6, 194);
        fault(many + " strap", 6, 195);
        fault(many + "reaches 1;", 4, 194);
        fault(many + "bears 1;", 6, 194);
        fault(many + "1;", 1, 194);
        fault(many + ";", 1, 194);
    }

    private static void by() {
        DUE.promise(7);
        QuiverKin x = Due.table(4, 0);
        DUE.is("by(0), none there", x.by(0), false);
        Due.text(x, "reaches 7;bears 8;");
        DUE.is("by(1)", x.by(1), false);
        DUE.is("by(-2)", x.by(-2), false);
        DUE.is("nothing done", x.about(2), -1);
        DUE.is("by(0)", x.by(0), true);
        DUE.is("about(2)", x.about(2), 0);
        DUE.is("reaches", x.of(0, 4), 7);
        DUE.is("bears", x.of(0, 5), 8);
        DUE.is("by(-1)", x.by(-1), true);
        DUE.is("reaches", x.of(0, 4), 4);
        DUE.is("bears", x.of(0, 5), 5);
        DUE.is("and no STEP", x.about(3), 0);
    }

    private static void reach() {
        DUE.promise(8);
        QuiverKin x = Due.table(0, 97, 0, 0);
        DUE.is("reach(0)", x.reach(0), 98);
        DUE.is("reach(0)", x.reach(0), 99);
        DUE.is("reach(0) at most", x.reach(0), 99);
        DUE.is("a STEP as well", x.about(3), 3);
        DUE.is("reach(2)", x.reach(2), -1);
        DUE.is("reach(-1)", x.reach(-1), -1);
        DUE.is("reach(MAX)", x.reach(Integer.MAX_VALUE), -1);
        x.strap(1);
        DUE.is("STRAPPED", x.reach(1), -1);
        DUE.is("no STEP", x.about(3), 4);
        x.strap(1);
        DUE.is("no more STRAPPED", x.reach(1), 1);
    }

    private static void downStrapSwap() {
        DUE.promise(9);
        QuiverKin x = Due.table(0, 99, 0, 3, 0, 0);
        DUE.is("down(1, 4)", x.down(1, 4), false);
        DUE.is("down(1, 0)", x.down(1, 0), false);
        DUE.is("down(1, -1)", x.down(1, -1), false);
        DUE.is("down(0, 100)", x.down(0, 100), false);
        DUE.is("down(3, 1)", x.down(3, 1), false);
        DUE.is("down(-1, 1)", x.down(-1, 1), false);
        DUE.is("down(0, 99)", x.down(0, 99), true);
        DUE.is("KEPT", x.of(0, 1), 0);
        DUE.is("down(1, 2)", x.down(1, 2), true);
        DUE.is("KEPT", x.of(1, 1), 1);
        DUE.is("two STEPS", x.about(3), 2);
        DUE.promise(10);
        DUE.is("strap(1)", x.strap(1), true);
        DUE.is("STRAPPED", x.of(1, 3), 1);
        DUE.promise(9);
        DUE.is("down of a STRAPPED one", x.down(1, 1), true);
        DUE.promise(10);
        DUE.is("strap(1)", x.strap(1), true);
        DUE.is("not STRAPPED", x.of(1, 3), 0);
        DUE.is("strap(3)", x.strap(3), false);
        DUE.is("strap(-1)", x.strap(-1), false);
        DUE.is("STEPS", x.about(3), 5);
        DUE.promise(11);
        DUE.is("swap(0, 2)", x.swap(0, 2), true);
        DUE.is("swap(2, 1)", x.swap(2, 1), true);
        DUE.is("at(0)", x.at(0), 1);
        DUE.is("at(1)", x.at(1), 2);
        DUE.is("at(2)", x.at(2), 0);
        DUE.is("swap(1, 1)", x.swap(1, 1), false);
        DUE.is("swap(0, 3)", x.swap(0, 3), false);
        DUE.is("swap(-1, 0)", x.swap(-1, 0), false);
        DUE.is("STEPS", x.about(3), 7);
    }

    private static void dinner() {
        DUE.promise(12);
        QuiverKin x = new QuiverKin();
        DUE.is("dinner(0)", x.dinner(0), -1);
        DUE.is("dinner(61)", x.dinner(61), -1);
        DUE.is("dinner(-1)", x.dinner(-1), -1);
        DUE.is("dinner(MIN)", x.dinner(Integer.MIN_VALUE), -1);
        DUE.is("none passed", x.is(0), 0);
        DUE.is("dinner(60) of none", x.dinner(60), 0);
        DUE.is("DINNER", x.is(0), 60);
        DUE.is("no draw", x.is(1), 421);
        DUE.is("each a STEP", x.about(3), 30);
        // X goes 421, 5141, 22659, 12322: draws by 10 are 1, 1, 9, 2.
        x = Due.table(2, 0, 1, 0, 9, 0);
        DUE.is("dinner(1)", x.dinner(1), 0);
        DUE.is("1 is below 2", x.of(0, 1), 1);
        DUE.is("1 is not below 1", x.of(1, 1), 0);
        DUE.is("9 is not below 9", x.of(2, 1), 0);
        DUE.is("X", x.is(1), 12322);
        x = Due.table(9, 0, 9, 0);
        x.strap(0);
        x.dinner(1);
        DUE.is("STRAPPED ones draw nothing", x.is(1), 5141);
        DUE.is("and reach nothing", x.of(0, 1), 0);
        DUE.is("the other one does", x.of(1, 1), 1);
        // By SEATS: who sits first draws first, 1 and then 1 and then 9.
        x = Due.table(9, 0, 9, 0, 9, 0);
        x.swap(0, 2);
        x.dinner(1);
        DUE.is("who sits last draws 9", x.of(0, 1), 0);
        DUE.is("who sits first draws 1", x.of(2, 1), 1);
    }

    private static void dinnerByLaws() {
        QuiverKin x = Due.ruled(Due.table(0, 98, 0, 0, 0, 5), "reaches 10;bears 99;");
        x.strap(2);
        DUE.is("dinner(2), none LOOSES", x.dinner(2), 0);
        DUE.is("99 at most", x.of(0, 1), 99);
        DUE.is("one more each", x.of(1, 1), 2);
        DUE.is("STRAPPED", x.of(2, 1), 5);
        String waits = "reaches if who=0 or quiver 0>0 then 10 else 0 end;bears 99;";
        x = Due.ruled(Due.table(0, 0, 0, 0), waits);
        x.dinner(1);
        DUE.is("reaches as it is then", x.of(1, 1), 1);
        x = Due.ruled(Due.table(0, 0, 0, 0), waits);
        x.swap(0, 1);
        x.dinner(1);
        DUE.is("reaches as it is then, sitting first", x.of(1, 1), 0);
        x = Due.ruled(Due.table(0, 1, 0, 1), "reaches 0;bears loose;");
        DUE.is("bears as it is then", x.dinner(1), 2);
        DUE.is("half of 1", x.of(0, 1), 0);
        DUE.is("half of 2", x.of(1, 1), 1);
        x = Due.table(0, 5, 0, 6);
        DUE.is("bears 5 without a law", x.dinner(1), 1);
        DUE.is("5 isn't more than 5; one came", x.of(0, 1), 6);
        x = Due.table(0, 9, 0, 9);
        x.strap(0);
        x.strap(1);
        DUE.is("STRAPPED ones don't LOOSE", x.dinner(3), 0);
    }

    /** One at a table of so many LOOSES, from a SEAT; then what BOOK says. */
    private static void loose(int[] kept, int who, int through, int stuck) {
        QuiverKin x = new QuiverKin();
        for (int one : kept) {
            x.kin(0, one);
        }
        Due.ruled(x, "reaches 0;bears if who=" + who + " then 0 else 99 end;");
        x.strap((who + 1) % kept.length);
        if (kept.length == 1) {
            x.strap(0);
        }
        DUE.is("dinner(1)", x.dinner(1), 1);
        DUE.is("DINNER of the line", x.book(0, 0), 0);
        DUE.is("who", x.book(0, 1), who);
        DUE.is("through whom", x.book(0, 2), through);
        DUE.is("in whom it sticks", x.book(0, 3), stuck);
        DUE.is("half", x.of(who, 1), kept[who] / 2);
        if (stuck >= 0) {
            DUE.is("one more", x.of(stuck, 1), Math.min(99, kept[stuck] + 1));
        }
    }

    private static void loosing() {
        loose(new int[] {7}, 0, 0, -1);
        loose(new int[] {7, 0}, 0, 2, -1);
        loose(new int[] {3, 7}, 1, 0, 0);
        loose(new int[] {7, 0, 0}, 0, 6, -1);
        loose(new int[] {5, 7, 0}, 1, 4, 0);
        loose(new int[] {0, 0, 9, 4}, 2, 1 + 2, -1);
        loose(new int[] {9, 4, 0, 0}, 0, 12, -1);
        loose(new int[] {9, 4, 0, 99}, 0, 4, 3);
        loose(new int[] {9, 4, 3, 0, 0}, 0, 0, 2);
        loose(new int[] {9, 4, 0, 0, 0}, 0, 28, -1);
        loose(new int[] {0, 0, 0, 0, 0, 1}, 5, 4 + 8 + 16, -1);
        loose(new int[] {0, 0, 0, 0, 1, 1}, 5, 4 + 8, 4);
        QuiverKin x = Due.ruled(Due.table(0, 0, 0, 3, 0, 0, 0, 8), "reaches 0;bears if who=3 then 0 else 99 end;");
        x.swap(1, 2);
        x.dinner(1);
        DUE.is("through the SEATS, not the numbers", x.book(0, 2), 4);
        DUE.is("and sticks", x.book(0, 3), 1);
    }

    private static void lastDinner() {
        DUE.promise(12);
        QuiverKin x = new QuiverKin();
        for (int i = 0; i < 166; i++) {
            x.dinner(60);
        }
        DUE.is("DINNER", x.is(0), 9960);
        DUE.is("dinner(40)", x.dinner(40), -1);
        DUE.is("dinner(39), up to 9999", x.dinner(39), 0);
        DUE.is("DINNER", x.is(0), 9999);
        for (int i = 0; i < 30; i++) {
            x.undo();
        }
        DUE.is("the eldest of them stay", x.is(0), 9969);
        DUE.is("dinner(31)", x.dinner(31), -1);
        x = new QuiverKin();
        for (int i = 0; i < 166; i++) {
            x.dinner(60);
        }
        DUE.is("nothing done", x.is(0), 9960);
        DUE.is("dinner(30)", x.dinner(30), 0);
        Due.text(x, "kin 3 kept 3;dinner 9;reach 0;dinner 3;reach 0;");
        DUE.promise(13);
        DUE.is("played up to 9999", x.played(0), 3);
        DUE.is("DINNER", x.is(0), 9999);
        DUE.promise(12);
        DUE.is("dinner(1)", x.dinner(1), -1);
        DUE.promise(20);
        DUE.is("foretold, none can pass", x.foretold(60, 0), x.of(0, 1));
        DUE.promise(14);
        DUE.is("years", x.years(0, 40), 9999);
        DUE.promise(15);
        DUE.is("undo", x.undo(), 29);
        DUE.is("undo", x.undo(), 28);
        DUE.is("DINNER", x.is(0), 9999);
        DUE.is("undo", x.undo(), 27);
        DUE.is("DINNER", x.is(0), 9998);
        Due.text(x, "dinner 2;");
        DUE.promise(13);
        DUE.is("one passes", x.played(1), 0);
        DUE.is("DINNER", x.is(0), 9999);
        DUE.is("none passes", x.played(1), 0);
        DUE.is("and no STEP", x.about(3), 28);
        DUE.promise(20);
        x = Due.ruled(Due.table(0, 0), "reaches 10;bears 99;");
        for (int i = 0; i < 166; i++) {
            x.dinner(60);
        }
        x.dinner(37);
        x.down(0, 99);
        DUE.is("foretold, two can pass", x.foretold(60, 0), 2);
    }

    private static void played() {
        DUE.promise(13);
        QuiverKin x = new QuiverKin();
        DUE.is("played(0), none there", x.played(0), -2);
        DUE.is("played(-1)", x.played(-1), -2);
        Due.text(x, "reaches 10;kin 1 kept 2;kin 3 kept 4;reach 0;down 1 by 3;strap 1;swap 0 with 1;bears 99;dinner 2;");
        DUE.is("played(0)", x.played(0), -1);
        DUE.is("played(1)", x.played(1), -2);
        DUE.is("THE TEXT is none", x.about(2), -1);
        DUE.is("STEPS", x.about(3), 6);
        DUE.is("KIN", x.about(0), 2);
        DUE.is("TEMPER", x.of(1, 0), 3);
        DUE.is("KEPT", x.of(1, 1), 1);
        DUE.is("STRAPPED", x.of(1, 3), 1);
        DUE.is("SEAT", x.of(0, 2), 1);
        DUE.is("DINNER", x.is(0), 2);
        // Of X 421 and 5141 draws are 1 and 1: not below TEMPER 1.
        DUE.is("reached once, by hand", x.of(0, 1), 3);
        stops("kin 1 kept 2;reach 0;reach 1;reach 0;", 2, 3);
        stops("bears 1;kin 1 kept 2;strap 0;reach 0;reach 0;", 3, 2);
        stops("kin 1 kept 2;down 0 by 3;reach 0;", 1, 2);
        stops("kin 1 kept 2;down 1 by 1;reach 0;", 1, 2);
        stops("kin 1 kept 2;strap 1;reach 0;", 1, 2);
        stops("kin 1 kept 2;swap 0 with 0;reach 0;", 1, 2);
        stops("kin 1 kept 2;swap 0 with 1;reach 0;", 1, 2);
        stops("kin 1 kept 2;", -1, 2);
        x = Due.table(0, 0, 0, 0, 0, 0, 0, 0, 0, 0);
        Due.text(x, "kin 1 kept 1;kin 2 kept 2;reach 0;");
        DUE.is("the 7th", x.played(0), 1);
        DUE.is("not reached", x.of(0, 1), 0);
        Due.text(x, "");
        DUE.is("nothing to do", x.played(1), -1);
        StringBuilder many = new StringBuilder("kin 0 kept 0;");
        for (int i = 1; i < 24; i++) {
            many.append("reach 0;");
        }
        stops(many.toString(), -1, 23);
        many.setLength(many.length() - 8);
        stops(many + "reach 1;", 23, 22);
    }

    private static void stops(String text, int clause, int kept) {
        QuiverKin x = new QuiverKin();
        Due.text(x, text);
        DUE.is("played " + text, x.played(0), clause);
        DUE.is("KEPT behind " + text, x.of(0, 1), kept);
    }

    private static void years() {
        DUE.promise(14);
        QuiverKin x = new QuiverKin();
        int[][] wrong = {{-1, 1}, {10000, 1}, {0, 0}, {0, 41}, {Integer.MAX_VALUE, 1}, {1, Integer.MIN_VALUE}};
        for (int[] w : wrong) {
            DUE.is("years(" + w[0] + ", " + w[1] + ")", x.years(w[0], w[1]), -1);
        }
        DUE.is("no STEP", x.about(3), 0);
        // 421 (1), 5141 (5: a DINNER), 22659 (3), 12322 (4: a DINNER) by 6.
        DUE.is("years(0, 1)", x.years(0, 1), 0);
        DUE.is("X", x.is(1), 5141);
        DUE.is("years(0, 2)", x.years(0, 2), 1);
        DUE.is("years(0, 4)", x.years(0, 4), 3);
        DUE.is("three STEPS", x.about(3), 3);
        DUE.is("undo", x.undo(), 2);
        DUE.is("DINNER", x.is(0), 1);
        DUE.is("X", x.is(1), 22659);
        // 421: PUT DOWN by 1 + 421 mod 3 = 2 of 70 mod 3 = 1.
        x = Due.table(0, 9, 0, 9, 0, 9);
        x.years(0, 1);
        DUE.is("PUT DOWN", x.of(1, 1), 7);
        DUE.is("of all", x.is(2), 25);
        x = Due.table(0, 1);
        x.years(0, 1);
        DUE.is("has not so many", x.of(0, 1), 1);
        // SEED 4: 429 is 3 by 6 and 1 by 4; 71 mod 3 = 2. SEED 1: 423 is 3 by 6, but 3 by 4.
        x = Due.table(0, 9, 0, 9, 0, 9);
        x.years(1, 1);
        DUE.is("not STRAPPED", x.is(3), 0);
        x.years(4, 1);
        DUE.is("STRAPPED", x.is(3), 4);
        x.years(4, 1);
        DUE.is("STRAPPED no more", x.is(3), 0);
        DUE.is("years(9999, 40)", x.years(9999, 40), x.is(0));
        yearsOfEvenDraws();
        x = Due.table(0, 0);
        x.years(4, 1);
        DUE.is("who is alone is dealt with as well", x.is(3), 1);
    }

    private static void yearsOfEvenDraws() {
        // SEED 6: 433 is 1 by 6; then (433 * 673 + 547) mod 30971 = 13217 (5). So seeds are sought by the same draws.
        for (int seed = 0; seed < 10000; seed += 7) {
            int first = seed * 2 + 421;
            int second = (first * 673 + 547) % 30971;
            boolean strapsFirst = first % 6 == 3 && first % 4 == 1;
            if (first % 6 == 5) {
                continue;
            }
            QuiverKin x = Due.table(0, 50, 0, 50, 0, 50, 0, 50);
            x.years(seed, 2);
            int who = second / 6 % 4;
            int downBefore = first % 6 == 1 ? 2 : 0;
            boolean strapped = strapsFirst && first / 6 % 4 == who;
            if (second % 6 == 0) {
                DUE.is("REACHED by SEED " + seed, x.is(2), 200 - downBefore + (strapped ? 0 : 1));
            } else if (second % 6 == 2) {
                boolean swapped = second % 4 == 2;
                DUE.is("SWAPPED by SEED " + seed, x.at(who), swapped ? (who + 1) % 4 : who);
                DUE.is("SWAPPED by SEED " + seed, x.of(who, 2), swapped ? (who + 1) % 4 : who);
            }
        }
        QuiverKin one = Due.table(0, 50);
        for (int seed = 0; seed < 40; seed++) {
            one.years(seed, 40);
            DUE.is("one alone keeps its SEAT", one.at(0), 0);
        }
    }

    private static void undo() {
        DUE.promise(15);
        QuiverKin x = Due.table(9, 3, 0, 20);
        DUE.is("undo of none", x.undo(), -1);
        x.reach(0);
        x.down(0, 2);
        x.strap(1);
        x.swap(0, 1);
        x.strap(1);
        x.dinner(2);
        x.years(0, 40);
        x.kin(4, 44);
        x.reach(2);
        x.swap(2, 0);
        x.strap(2);
        DUE.is("STEPS", x.about(3), 11);
        DUE.is("undo", x.undo(), 10);
        DUE.is("STRAPPED", x.of(2, 3), 0);
        DUE.is("undo", x.undo(), 9);
        DUE.is("SEAT", x.of(2, 2), 2);
        DUE.is("undo", x.undo(), 8);
        DUE.is("as told", x.of(2, 1), 44);
        DUE.is("undo of YEARS", x.undo(), 7);
        DUE.is("DINNER", x.is(0), 2);
        DUE.is("told since", x.about(0), 3);
        DUE.is("as told", x.of(2, 1), 44);
        DUE.is("as told", x.at(2), 2);
        // 0 is LOOSED in the second one, too: two came to it from 1, and it drew 1 and 2.
        DUE.is("BOOK", x.book(-1, 0), 3);
        DUE.is("undo of a DINNER", x.undo(), 6);
        DUE.is("DINNER", x.is(0), 1);
        DUE.is("BOOK", x.book(-1, 0), 1);
        DUE.is("undo of a DINNER", x.undo(), 5);
        DUE.is("X", x.is(1), 421);
        DUE.is("BOOK", x.book(-1, 0), 0);
        DUE.is("KEPT", x.of(1, 1), 20);
        DUE.is("undo of a strap", x.undo(), 4);
        DUE.is("STRAPPED", x.is(3), 2);
        DUE.is("undo of a swap", x.undo(), 3);
        DUE.is("at(0)", x.at(0), 0);
        DUE.is("undo of a strap", x.undo(), 2);
        DUE.is("STRAPPED", x.is(3), 0);
        DUE.is("undo of down", x.undo(), 1);
        DUE.is("KEPT", x.of(0, 1), 4);
        DUE.is("undo of reach", x.undo(), 0);
        DUE.is("KEPT", x.of(0, 1), 3);
        DUE.is("undo of none", x.undo(), -1);
        DUE.is("told stays", x.of(2, 0), 4);
        x = Due.table(0, 0);
        for (int i = 0; i < 33; i++) {
            x.reach(0);
        }
        DUE.is("30 at most", x.about(3), 30);
        for (int i = 29; i >= 0; i--) {
            DUE.is("undo", x.undo(), i);
        }
        DUE.is("undo of none", x.undo(), -1);
        DUE.is("the eldest three stay", x.of(0, 1), 3);
    }

    private static int value(QuiverKin x, int who, String sum) {
        int at = Due.text(x, "bears " + sum + ";");
        x.by(at);
        return x.of(who, 5);
    }

    private static void of() {
        DUE.promise(16);
        QuiverKin x = Due.table(1, 11, 2, 12, 3, 13);
        x.strap(1);
        x.swap(0, 2);
        int[][] due = {{1, 11, 2, 0, 1, 5, 2}, {2, 12, 1, 1, 2, 5, 0}, {3, 13, 0, 0, 3, 5, 1}};
        // SEATS: 2, 1, 0; ACROSS is one SEAT further on.
        for (int kin = 0; kin < 3; kin++) {
            for (int what = 0; what < 7; what++) {
                DUE.is("of(" + kin + ", " + what + ")", x.of(kin, what), due[kin][what]);
            }
            DUE.is("of(" + kin + ", 7)", x.of(kin, 7), -1);
            DUE.is("of(" + kin + ", -1)", x.of(kin, -1), -1);
        }
        DUE.is("of(3, 0)", x.of(3, 0), -1);
        DUE.is("of(-1, 0)", x.of(-1, 0), -1);
        for (int n = 1; n <= 6; n++) {
            x = new QuiverKin();
            for (int i = 0; i < n; i++) {
                x.kin(0, 0);
            }
            for (int i = 0; i < n; i++) {
                DUE.is("ACROSS of " + i + " of " + n, x.of(i, 6), (i + n / 2) % n);
            }
        }
        x = Due.ruled(Due.table(9, 0), "reaches 0-1;bears 0-1;");
        DUE.is("reaches at least", x.of(0, 4), 0);
        DUE.is("bears at least", x.of(0, 5), 0);
        Due.ruled(x, "reaches 11;bears 100;");
        DUE.is("reaches at most", x.of(0, 4), 10);
        DUE.is("bears at most", x.of(0, 5), 99);
        Due.ruled(x, "bears 1;");
        DUE.is("reaches without", x.of(0, 4), 9);
        Due.ruled(x, "reaches 1;");
        DUE.is("bears without", x.of(0, 5), 5);
    }

    private static void sum(String sum, int want) {
        QuiverKin x = Due.table(7, 30, 2, 41, 3, 0, 8, 52);
        x.swap(1, 2);
        x.strap(0);
        x.dinner(3);
        x.undo();
        x.strap(0);
        // DINNER 2; SEATS 0, 2, 1, 3.
        DUE.is(sum, value(x, 1, sum), want);
    }

    private static void sums() {
        sum("10-3-2", 5);
        sum("2+3*4", 14);
        sum("(2+3)*4", 20);
        sum("17/5", 3);
        sum("20/3*3", 18);
        sum("50+(0-7)/2", 47);
        sum("50+7/(0-2)", 47);
        sum("7/0", 0);
        sum("3+(0-7)/0", 3);
        sum("9999*9999/9999-50", 50);
        sum("9999*9999+1-9999*100-50", 50);
        sum("0-9999*9999-1+9999*100+150", 50);
        sum("-(9999*9999)/9999+150", 50);
        sum("-9999*9999/9999+150", 50);
        sum("- -7", 7);
        sum("50 + -7", 43);
        sum("50 - -7", 57);
        sum("-7 + 50", 43);
        sum("-(7) * -2", 14);
        sum("dinner", 2);
        sum("who", 1);
        sum("temper", 2);
        sum("seat", 2);
        sum("kept - quiver 1", 0);
        sum("across 0", 1);
        sum("across 1", 0);
        sum("across who + across 2", 3);
        sum("across 3", 2);
        sum("across 4 + across (0-1) + across 9999", 0);
        sum("quiver 4 + quiver (0-1) + quiver 9999", 0);
        sum("quiver across 1 - quiver 0", 0);
        sum("across quiver 4", 1);
        sum("quiver 4 + across -0", 1);
        sum("if 1<2 then 3 else 4 end", 3);
        sum("if 2<2 then 3 else 4 end", 4);
        sum("if 2<=2 then 3 else 4 end", 3);
        sum("if 3<=2 then 3 else 4 end", 4);
        sum("if 2>2 then 3 else 4 end", 4);
        sum("if 3>2 then 3 else 4 end", 3);
        sum("if 2>=2 then 3 else 4 end", 3);
        sum("if 1>=2 then 3 else 4 end", 4);
        sum("if 2=2 then 3 else 4 end", 3);
        sum("if 1=2 then 3 else 4 end", 4);
        sum("if 1#2 then 3 else 4 end", 3);
        sum("if 2#2 then 3 else 4 end", 4);
        sum("if not 1<2 then 3 else 4 end", 4);
        sum("if not not 1<2 then 3 else 4 end", 3);
        sum("if not 1<2 and 1>2 then 3 else 4 end", 4);
        sum("if not 1>2 or 1<2 then 3 else 4 end", 3);
        sum("if 1<2 or 1<2 and 1>2 then 3 else 4 end", 3);
        sum("if 1>2 and 1<2 or 1<2 then 3 else 4 end", 3);
        sum("if 1>2 or 1>2 then 3 else 4 end", 4);
        sum("if 1<2 and 1<2 and 1>2 then 3 else 4 end", 4);
        String[] so = {"1<2", "1<=2", "2>1", "2>=1", "1=1", "1#2", "not 1#1", "not not 1<2"};
        String[] notSo = {"2<2", "2<=1", "2>2", "1>=2", "1=2", "2#2", "not 1#2", "not 1=1"};
        for (int i = 0; i < so.length; i++) {
            for (int k = 0; k < so.length; k++) {
                sum("if " + so[i] + " and " + so[k] + " then 3 else 4 end", 3);
                sum("if " + so[i] + " and " + notSo[k] + " then 3 else 4 end", 4);
                sum("if " + notSo[i] + " or " + so[k] + " then 3 else 4 end", 3);
                sum("if " + notSo[i] + " or " + notSo[k] + " then 3 else 4 end", 4);
                sum("if " + so[i] + " or " + so[k] + " and " + notSo[i] + " then 3 else 4 end", 3);
                sum("if not " + so[i] + " or " + so[k] + " then 3 else 4 end", 3);
            }
        }
        sum("1 + if 1<2 then if 1>2 then 3 else 4 end * 2 else 5 end * 3", 25);
        sum("if 1>2 then 3 else if 1>2 then 3 else 4 end end + 1", 5);
        StringBuilder many = new StringBuilder("0");
        for (int i = 0; i < 145; i++) {
            many.append("+0");
        }
        // "bears ", this, "+7" and ";" are 300 bytes.
        sum(many + "+7", 7);
        QuiverKin x = Due.ruled(Due.table(0, 2), "reaches beside;");
        DUE.is("beside of one: its own twice", x.of(0, 4), 4);
        x.kin(0, 3);
        DUE.is("beside of two: the other one's twice", x.of(0, 4), 6);
        x.kin(0, 1);
        DUE.is("beside of three", x.of(0, 4), 4);
        x.kin(0, 6);
        x.swap(0, 1);
        // SEATS 1, 0, 2, 3.
        DUE.is("beside of four", x.of(0, 4), 4);
        DUE.is("beside of four", x.of(1, 4), 8);
        DUE.is("beside of four", x.of(3, 4), 4);
        x = Due.ruled(Due.table(0, 99, 0, 99), "reaches 10;bears loose;");
        for (int i = 0; i < 40; i++) {
            x.dinner(1);
        }
        DUE.is("loose", x.of(0, 5), x.book(-1, 0));
    }

    private static void at() {
        DUE.promise(17);
        QuiverKin x = new QuiverKin();
        DUE.is("at(0) of none", x.at(0), -1);
        x.kin(0, 3);
        x.kin(0, 4);
        DUE.is("at(0)", x.at(0), 0);
        DUE.is("at(1)", x.at(1), 1);
        DUE.is("at(2)", x.at(2), -1);
        DUE.is("at(-1)", x.at(-1), -1);
        x.swap(0, 1);
        DUE.is("at(0)", x.at(0), 1);
        DUE.promise(18);
        x.strap(1);
        DUE.is("is(0)", x.is(0), 0);
        DUE.is("is(2)", x.is(2), 7);
        DUE.is("is(3)", x.is(3), 2);
        DUE.is("is(4)", x.is(4), -2);
        DUE.is("is(-1)", x.is(-1), -2);
        x.strap(0);
        DUE.is("is(3)", x.is(3), 3);
        x.dinner(5);
        DUE.is("is(0)", x.is(0), 5);
        DUE.is("is(1)", x.is(1), 421);
    }

    private static void book() {
        DUE.promise(19);
        QuiverKin x = Due.ruled(Due.table(0, 0, 0, 0, 0, 0), "reaches if who=dinner/2-dinner/6*3 then 10 else 0 end;bears 0;");
        DUE.is("book(0, 0) of none", x.book(0, 0), -2);
        // In DINNERS 0 and 1 it is 0 who reaches and LOOSES, in 2 and 3 it is 1, in 4 and 5 it is 2, and so on.
        for (int i = 0; i < 25; i++) {
            DUE.is("dinner(1)", x.dinner(1), 1);
            DUE.is("how many", x.book(-1, 0), i + 1);
        }
        for (int i = 0; i < 25; i++) {
            DUE.is("DINNER", x.book(i, 0), i);
            DUE.is("who", x.book(i, 1), i / 2 % 3);
            DUE.is("through all others", x.book(i, 2), 7 - (1 << i / 2 % 3));
            DUE.is("in none", x.book(i, 3), -1);
        }
        DUE.is("dinner(2)", x.dinner(2), 2);
        DUE.is("25 at most", x.book(-1, 3), 25);
        DUE.is("the eldest", x.book(0, 0), 2);
        DUE.is("the latest", x.book(24, 0), 26);
        DUE.is("book(25, 0)", x.book(25, 0), -2);
        DUE.is("book(-2, 0)", x.book(-2, 0), -2);
        DUE.is("book(0, 4)", x.book(0, 4), -2);
        DUE.is("book(0, -1)", x.book(0, -1), -2);
        DUE.promise(15);
        x.undo();
        DUE.is("BOOK as ahead of it", x.book(0, 0), 1);
        DUE.is("BOOK as ahead of it", x.book(24, 0), 25);
        DUE.promise(47);
        DUE.is("ledger(-1)", x.ledger(-1), 25);
        // DINNERS 1 to 25: of 0 are 1, 6, 7, 12, 13, 18, 19, 24, 25.
        DUE.is("ledger(0)", x.ledger(0), 9);
        DUE.is("ledger(1)", x.ledger(1), 8);
        DUE.is("ledger(3)", x.ledger(3), -2);
        DUE.is("ledger(-2)", x.ledger(-2), -2);
    }

    private static void foretold() {
        DUE.promise(20);
        QuiverKin x = Due.table(9, 4, 0, 0, 5, 6, 2, 0);
        int[] due = new int[61];
        for (int n = 1; n <= 60; n++) {
            due[n] = x.foretold(n, n % 4);
        }
        DUE.is("nothing is done", x.is(0), 0);
        DUE.is("X", x.is(1), 421);
        DUE.is("KEPT", x.is(2), 10);
        DUE.is("BOOK", x.book(-1, 0), 0);
        DUE.is("STEPS", x.about(3), 0);
        for (int n = 1; n <= 60; n++) {
            x.dinner(1);
            DUE.is("foretold(" + n + ")", due[n], x.of(n % 4, 1));
        }
        DUE.is("foretold(0, 0)", x.foretold(0, 0), -1);
        DUE.is("foretold(61, 0)", x.foretold(61, 0), -1);
        DUE.is("foretold(1, 4)", x.foretold(1, 4), -1);
        DUE.is("foretold(1, -1)", x.foretold(1, -1), -1);
        Due.ruled(x, "reaches 0;bears 99;");
        DUE.is("by THE TEXT", x.foretold(9, 0), x.of(0, 1));
    }

    private static void told() {
        DUE.promise(43);
        QuiverKin x = Due.table(3, 5, 4, 6);
        DUE.is("told(2, 1)", x.told(2, 1), -2);
        DUE.is("told(-2, 1)", x.told(-2, 1), -2);
        DUE.is("told(0, 11)", x.told(0, 11), -2);
        DUE.is("told(0, -1)", x.told(0, -1), -2);
        DUE.is("none", x.about(6), 0);
        for (int i = 1; i <= 8; i++) {
            DUE.is("told", x.told(i % 2, i % 2 == 0 ? 0 : 10), i);
        }
        DUE.is("the 9th", x.told(0, 0), -2);
        DUE.is("told(-1, 99)", x.told(-1, 99), 0);
        DUE.is("none", x.about(6), 0);
        DUE.promise(44);
        DUE.is("without TEXTS", x.whose(), 0);
        Due.text(x, "bears 9;");
        Due.text(x, "reaches 3+who;");
        Due.text(x, "reaches kept-2;");
        Due.text(x, "reaches 20;");
        x.by(3);
        DUE.is("without TOLD", x.whose(), 15);
        x.told(0, 3);
        DUE.is("0 reaches 3", x.whose(), 7);
        x.told(1, 4);
        DUE.is("1 reaches 4", x.whose(), 7);
        x.reach(1);
        DUE.is("as now", x.whose(), 3);
        x.told(0, 10);
        DUE.is("no more", x.whose(), 0);
        x.told(-1, 0);
        x.told(0, 10);
        DUE.is("0 reaches 10", x.whose(), 8);
    }

    private static void fullestCalmLedger() {
        QuiverKin x = new QuiverKin();
        DUE.promise(45);
        DUE.is("of none", x.fullest(), -1);
        DUE.promise(46);
        DUE.is("of none", x.calm(), 0);
        DUE.promise(47);
        DUE.is("of none", x.ledger(-1), 0);
        DUE.is("of none", x.ledger(0), -2);
        x = Due.table(0, 0, 0, 0);
        DUE.promise(45);
        DUE.is("above 0", x.fullest(), -1);
        DUE.promise(46);
        DUE.is("calm", x.calm(), 3);
        x.kin(0, 1);
        x.kin(0, 7);
        x.kin(0, 7);
        DUE.is("calm", x.calm(), 3);
        DUE.promise(45);
        DUE.is("the lowest of like ones", x.fullest(), 3);
        x.reach(4);
        DUE.is("most", x.fullest(), 4);
        x.reach(0);
        DUE.promise(46);
        DUE.is("calm", x.calm(), 2);
        DUE.promise(47);
        DUE.is("none LOOSED", x.ledger(4), 0);
        x.dinner(1);
        DUE.is("LOOSED", x.ledger(4), 1);
        DUE.is("LOOSED", x.ledger(3), 1);
        DUE.is("LOOSED", x.ledger(2), 0);
        DUE.is("all", x.ledger(-1), 2);
    }

    private static void imageAndBack() {
        DUE.promise(48);
        QuiverKin x = Due.ruled(Due.table(3, 5, 4, 6, 5, 7), "reaches 2;");
        x.reach(0);
        x.swap(0, 1);
        x.dinner(4);
        x.spite(0, 1, 9);
        x.hedge(0, 3);
        x.guess(0, 1, 1);
        x.gain(1, 1, 7, 7);
        x.saying(3, 4);
        x.told(1, 9);
        long[] before = seen(x);
        DUE.is("image()", x.image(), 4);
        change(x);
        x.feed(1, 1, 1, 1, 1);
        DUE.promise(49);
        DUE.is("back()", x.back(), 4);
        same(x, before);
        DUE.is("the tape is as it was", x.about(7), 20);
        DUE.is("the FAULT is as it was", x.fault(0), 1);
        change(x);
        x.kin(1, 1);
        DUE.is("back() again", x.back(), 4);
        same(x, before);
        DUE.is("undo", x.undo(), 5);
        DUE.is("DINNER", x.is(0), 3);
        x.back();
        x.undo();
        x.undo();
        x.undo();
        x.undo();
        x.undo();
        DUE.is("undo", x.undo(), 0);
        DUE.is("KEPT", x.of(0, 1), 5);
        DUE.is("SEAT", x.of(0, 2), 0);
        DUE.promise(48);
        DUE.is("a later image", x.image(), 0);
        x.dinner(60);
        DUE.promise(49);
        DUE.is("back to the later one", x.back(), 0);
        DUE.is("no STEPS", x.undo(), -1);
    }

    private static void change(QuiverKin x) {
        x.kin(1, 1);
        x.by(-1);
        Due.text(x, "bears 99;strap 2;");
        x.played(1);
        Due.text(x, "x");
        x.dinner(33);
        x.spite(0, 1, 2);
        x.spite(2, 1, 3);
        x.hedge(0, 1);
        x.guess(-1, 0, 0);
        x.gain(1, 1, -7, -7);
        x.saying(9, 9);
        x.told(-1, 0);
    }

    private static long[] seen(QuiverKin x) {
        return new long[] {
            x.is(0), x.is(1), x.is(2), x.is(3), x.at(0), x.at(1), x.at(2), x.book(-1, 0), x.spiteNow(), x.round(false), x.flight(1, 3, 0),
            x.flight(6, 0, 2), x.fits(), x.rests(), x.least(4, true), x.least(5, true), x.whose(), x.about(0), x.about(1), x.about(2),
            x.about(3), x.about(4), x.about(5), x.about(6), x.of(0, 4)
        };
    }

    private static void same(QuiverKin x, long[] before) {
        long[] now = seen(x);
        for (int i = 0; i < now.length; i++) {
            DUE.is("what is seen, the " + i + "th", now[i], before[i]);
        }
    }

    private static void about() {
        DUE.promise(50);
        QuiverKin x = Due.table(1, 1, 2, 2);
        Due.text(x, "");
        Due.text(x, "");
        Due.text(x, "");
        x.by(1);
        x.reach(0);
        x.guess(1, 1, 1);
        x.guess(1, 1, 1);
        x.saying(1, 1);
        x.saying(1, 1);
        x.saying(1, 1);
        x.saying(1, 1);
        x.told(0, 0);
        x.told(0, 0);
        x.told(0, 0);
        x.told(0, 0);
        x.told(0, 0);
        Due.tape(x, "1234567");
        int[] due = {2, 3, 1, 1, 2, 4, 5, 7};
        for (int what = 0; what < 8; what++) {
            DUE.is("about(" + what + ")", x.about(what), due[what]);
        }
        DUE.is("about(8)", x.about(8), -2);
        DUE.is("about(-1)", x.about(-1), -2);
    }
}
