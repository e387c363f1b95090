/**
 * Edges of promises 3 to 7, 13, 43 and 44, each method for one sentence of the document,
 * which stands ahead of it ("by Terms": it stands in Terms, not in the promise).
 */
public final class EdgesOfTexts {
    private static final Due DUE = new Due();
    private static final Edge EDGE = new Edge(DUE);
    private static final int MIN = Integer.MIN_VALUE;
    private static final int MAX = Integer.MAX_VALUE;

    public static void main(String[] args) {
        feedBytes();
        feedBeyond();
        endOfOthers();
        firstBytes();
        emptyTape();
        tapeOf300();
        textsOfFour();
        fourLongTexts();
        shorterText();
        faultyText();
        faultOthers();
        latestRead();
        atTheEnd();
        blanks();
        letters();
        digits();
        longestTokens();
        cantStand();
        numbersTold();
        ninthOpen();
        closedAgain();
        secondLaw();
        namesOfClauses();
        clauses();
        leastOfOne();
        firstOfAll();
        byOthers();
        playedOthers();
        playedAtEdges();
        playedDinners();
        fromTheLeft();
        cuts();
        millions();
        asks();
        othersOfNames();
        beside();
        loose();
        toldOthers();
        toldAtMost();
        whoseAtEdges();
        DUE.end("EdgesOfTexts");
    }

    // ---- 3 and 4: the tape

    /** Blanks, and at one place a byte that is no TOKEN. */
    private static int[] words(int place, int wrong) {
        int[] words = {0x20202020, 0x20202020, 0x20202020, 0x20202020, 0x20202020};
        int shift = 24 - 8 * (place % 4);
        words[place / 4] = words[place / 4] & ~(255 << shift) | wrong << shift;
        return words;
    }

    // Promise 3: "Twenty bytes come behind the tape, the highest of a first: how many it has."
    private static void feedBytes() {
        DUE.promise(3);
        for (int place = 0; place < 20; place++) {
            for (int wrong : new int[] {0, 127, 128, 255}) {
                QuiverKin x = new QuiverKin();
                int[] w = words(place, wrong);
                DUE.is("feed", x.feed(w[0], w[1], w[2], w[3], w[4]), 20);
                DUE.is("text()", x.text(), -1);
                DUE.is("where byte " + wrong + " stands", x.fault(1), place);
            }
        }
        QuiverKin x = new QuiverKin();
        x.feed(0x20202020, 0x20202020, 0x20202020, 0x20202020, 0x20202020);
        x.end(13);
        DUE.is("behind the tape", x.feed(MIN, MAX, -1, 0, 1), 33);
        x.text();
        DUE.is("its first byte", x.fault(1), 13);
    }

    private static QuiverKin taped(int bytes) {
        QuiverKin x = new QuiverKin();
        StringBuilder tape = new StringBuilder("bears 7;");
        while (tape.length() < bytes - 8) {
            tape.append(' ');
        }
        Due.tape(x, tape + "strap 0;");
        return x;
    }

    // Promise 3: "NONE, and none come, if there would be more than 300."
    private static void feedBeyond() {
        DUE.promise(3);
        for (int bytes : new int[] {281, 282, 299, 300}) {
            EDGE.refused(() -> taped(bytes), "feed at " + bytes, (x, v) -> x.feed(v, v, v, v, v), -1, 0, MIN, MAX, 0x20202020);
            QuiverKin x = taped(bytes);
            x.feed(0, 0, 0, 0, 0);
            DUE.is("bytes", x.about(7), bytes);
            DUE.is("the tape can be read as it was", x.text(), 0);
        }
        QuiverKin x = taped(280);
        DUE.is("feed at 280", x.feed(0x20202020, 0x20202020, 0x20202020, 0x20202020, 0x20202020), 300);
        DUE.is("read", x.text(), 0);
        x = new QuiverKin();
        for (int bytes = 20; bytes <= 300; bytes += 20) {
            DUE.is("feed", x.feed(0, 0, 0, 0, 0), bytes);
        }
        DUE.is("the 16th", x.feed(0, 0, 0, 0, 0), -1);
    }

    // Promise 4: "NONE, and nothing is done, if it has not so many, or n is below 0."
    private static void endOfOthers() {
        DUE.promise(4);
        for (int bytes : new int[] {16, 20, 299, 300}) {
            EDGE.refused(() -> taped(bytes), "end(v) of " + bytes, (x, v) -> x.end(v), -1, Edge.outside(0, bytes));
        }
        EDGE.refused(QuiverKin::new, "end(v) of none", (x, v) -> x.end(v), -1, Edge.outside(0, 0));
        DUE.is("end(0) of none", new QuiverKin().end(0), 0);
    }

    // Promise 4: "The tape has its first n bytes alone: n."
    private static void firstBytes() {
        DUE.promise(4);
        for (int n : new int[] {0, 1, 299, 300}) {
            QuiverKin x = taped(300);
            DUE.is("end(" + n + ")", x.end(n), n);
            DUE.is("bytes", x.about(7), n);
            DUE.is("one more than it has", x.end(n + 1), -1);
            DUE.is("all that it has", x.end(n), n);
        }
        QuiverKin x = taped(300);
        x.end(299);
        DUE.is("without its last byte", x.text(), -1);
        DUE.is("FAULT at the length", x.fault(1), 299);
        x = taped(300);
        x.end(8);
        DUE.is("its first 8 bytes", x.text(), 0);
        x.by(0);
        x.kin(1, 1);
        DUE.is("bears", x.of(0, 5), 7);
    }

    // ---- 5 and 6: texts and their faults

    // Promise 5: "The tape (empty then) is a TEXT: its number."
    private static void emptyTape() {
        DUE.promise(5);
        QuiverKin x = new QuiverKin();
        DUE.is("text() of the empty tape", x.text(), 0);
        DUE.is("FAULT", x.fault(0), 0);
        DUE.is("its place", x.fault(1), -1);
        DUE.is("TEXTS", x.about(1), 1);
        DUE.is("one byte, a blank", Due.text(x, "\n"), 1);
        DUE.is("bytes then", x.about(7), 0);
        DUE.is("end(1) then", x.end(1), -1);
        DUE.is("of one CLAUSE", Due.text(x, "strap 0;"), 2);
        DUE.is("bytes then", x.about(7), 0);
    }

    // Promise 5 by Terms: "TEXTS 0 .. 3: of up to 300 bytes."
    private static void tapeOf300() {
        DUE.promise(5);
        for (int bytes : new int[] {299, 300}) {
            QuiverKin x = taped(bytes);
            DUE.is("text() of " + bytes, x.text(), 0);
            x.kin(0, 0);
            DUE.is("played to its last CLAUSE", x.played(0), -1);
            DUE.is("STRAPPED", x.is(3), 1);
        }
        QuiverKin x = new QuiverKin();
        String many = "bears " + "1+".repeat(40) + "0+".repeat(106) + "9;";
        DUE.is("bytes", many.length(), 300);
        DUE.is("text() of as many TOKENS as can be", Due.text(x, many), 0);
        x.by(0);
        x.kin(0, 0);
        DUE.is("their sum", x.of(0, 5), 49);
        DUE.is("text() of signs alone", Due.text(x, ";".repeat(300)), -1);
        DUE.is("its place", x.fault(1), 0);
        DUE.is("text() of one word", Due.text(x, "a".repeat(300)), -1);
        DUE.is("text() of one NUMBER", Due.text(x, "0".repeat(300)), -1);
        DUE.is("text() of blanks", Due.text(x, " ".repeat(300)), 1);
        DUE.is("text() of a long NUMBER", Due.text(x, "strap " + "0".repeat(293) + ";"), 2);
        DUE.is("text() of a longer NUMBER", Due.text(x, "strap " + "0".repeat(294)), -1);
        DUE.is("its place", x.fault(1), 300);
    }

    // Promise 5: "NONE: it has a FAULT; or (the tape stays) there are 4."
    private static void textsOfFour() {
        DUE.promise(5);
        QuiverKin x = new QuiverKin();
        for (int i = 0; i < 4; i++) {
            DUE.is("text(), the " + i + "th", Due.text(x, "bears " + i + ";"), i);
        }
        for (String tape : new String[] {"strap 0;", "x", ""}) {
            Due.tape(x, tape);
            DUE.is("text(), the 5th", x.text(), -1);
            DUE.is("the tape stays", x.about(7), tape.length());
            DUE.is("TEXTS", x.about(1), 4);
            DUE.is("the latest FAULT", x.fault(0), 0);
        }
        // What stayed on the tape can be read when BACK there are fewer.
        x = new QuiverKin();
        for (int i = 0; i < 3; i++) {
            Due.text(x, "");
        }
        x.image();
        Due.text(x, "");
        Due.tape(x, "bears 77;");
        DUE.is("text(), the 5th", x.text(), -1);
        x.back();
        DUE.is("text(), the 4th", x.text(), 3);
        x.by(3);
        x.kin(0, 0);
        DUE.is("bears", x.of(0, 5), 77);
    }

    // Promise 5 by Terms: "TEXTS 0 .. 3: of up to 300 bytes. "
    private static void fourLongTexts() {
        DUE.promise(5);
        QuiverKin x = Due.table(0, 0);
        for (int i = 0; i < 4; i++) {
            DUE.is("text() with a FAULT at its end", Due.text(x, "bears " + "1+".repeat(146) + "9+"), -1);
            DUE.is("its place", x.fault(1), 300);
            String text = "bears " + "1+".repeat(10 + i) + "0+".repeat(124 - i) + "if 1<2 then " + i + " else 50 end;";
            DUE.is("bytes", text.length(), 300);
            DUE.is("text()", Due.text(x, text), i);
        }
        for (int i = 3; i >= 0; i--) {
            x.by(i);
            DUE.is("bears by the " + i + "th", x.of(0, 5), 10 + 2 * i);
        }
    }

    // Promise 5: "The tape (empty then) is a TEXT"
    private static void shorterText() {
        DUE.promise(5);
        QuiverKin x = Due.table(0, 0);
        Due.text(x, "strap 0;".repeat(24));
        Due.text(x, "strap 0;".repeat(9) + "strap 6;");
        DUE.is("six CLAUSES behind longer ones", Due.text(x, "reach 0;".repeat(6)), 1);
        DUE.is("played", x.played(1), -1);
        DUE.is("STEPS", x.about(3), 6);
        DUE.is("none behind longer ones", Due.text(x, ""), 2);
        DUE.is("played", x.played(2), -1);
        DUE.is("STEPS", x.about(3), 6);
        Due.text(x, "bears 7;reaches 7;");
        Due.text(x, "");
        x.by(2);
        DUE.is("no law of an earlier TEXT", x.of(0, 5), 5);
        DUE.is("no law of a later one", x.of(0, 4), 0);
    }

    // Promise 5: "NONE: it has a FAULT"
    private static void faultyText() {
        DUE.promise(5);
        QuiverKin x = new QuiverKin();
        for (int i = 0; i < 5; i++) {
            DUE.is("text() with a FAULT", Due.text(x, "bears 8;reach 6;"), -1);
            DUE.is("TEXTS", x.about(1), 0);
            DUE.is("by(0)", x.by(0), false);
            DUE.is("played(0)", x.played(0), -2);
        }
        DUE.is("text() without", Due.text(x, "bears 9;"), 0);
        x.by(0);
        x.kin(0, 0);
        DUE.is("bears", x.of(0, 5), 9);
    }

    // Promise 6: "Of the latest text that was read: 0 its FAULT (0 without), 1 its place (NONE without). NONE for others, and ahead of any."
    private static void faultOthers() {
        DUE.promise(6);
        EDGE.refused(QuiverKin::new, "fault(v) ahead of any", (x, v) -> x.fault(v), -1, 0, 1, 2, -1, MIN, MAX);
        EDGE.refused(6, "fault(v)", (x, v) -> x.fault(v), -1, Edge.outside(0, 1));
        QuiverKin x = new QuiverKin();
        Due.text(x, "");
        DUE.is("fault(0) without", x.fault(0), 0);
        DUE.is("fault(1) without", x.fault(1), -1);
        for (int v : Edge.outside(0, 1)) {
            DUE.is("fault(" + v + ")", x.fault(v), -1);
        }
    }

    // Promise 6: "Of the latest text that was read"
    private static void latestRead() {
        DUE.promise(6);
        QuiverKin x = new QuiverKin();
        Due.text(x, "dinner 61;");
        DUE.is("FAULT", x.fault(0), 2);
        DUE.is("its place", x.fault(1), 7);
        Due.tape(x, "x");
        DUE.is("fed, but not read", x.fault(0), 2);
        x.text();
        DUE.is("the latest FAULT", x.fault(0), 1);
        DUE.is("its place", x.fault(1), 0);
        for (int i = 0; i < 4; i++) {
            Due.text(x, "");
        }
        DUE.is("without FAULT", x.fault(0), 0);
        Due.text(x, "x");
        DUE.is("of five TEXTS none is read", x.fault(0), 0);
        DUE.is("its place", x.fault(1), -1);
    }

    private static void fault(String text, int fault, int place) {
        QuiverKin x = new QuiverKin();
        DUE.is("text() of " + text, Due.text(x, text), fault == 0 ? 0 : -1);
        DUE.is("fault(0) of " + text, x.fault(0), fault);
        DUE.is("fault(1) of " + text, x.fault(1), place);
    }

    private static void stands(String text) {
        fault(text, 0, -1);
    }

    // Promise 6 by Terms: "at the TOKEN's first byte (of the end at the length)"
    private static void atTheEnd() {
        DUE.promise(6);
        fault("!", 1, 0);
        fault("   !", 1, 3);
        fault("reachingfor 1;", 1, 0);
        fault("strap", 1, 5);
        fault("strap  \n ", 1, 9);
        fault("strap 0", 1, 7);
        fault("bears (1", 1, 8);
        fault("bears", 1, 5);
        fault("strap 0;strap", 1, 13);
        fault("strap 0;" + " ".repeat(291) + "!", 1, 299);
        fault(" ".repeat(299) + "!", 1, 299);
        fault(" ".repeat(295) + "strap", 1, 300);
        fault(" ".repeat(293) + "strap 0", 1, 300);
        stands(" ".repeat(292) + "strap 0;");
    }

    // Promise 6 by Terms: "TOKENS, blanks (32, 10) aside"
    private static void blanks() {
        DUE.promise(6);
        stands("\n \nstrap\n\n0 ; ");
        for (char no : new char[] {0, 1, 9, 11, 12, 13, 31, 33, 127, 128, 160, 255}) {
            fault("strap 0;" + no, 1, 8);
            fault("strap" + no + "0;", 1, 5);
        }
    }

    // Promise 6 by Terms: "letters a .. z, A .. Z one behind the other (one TOKEN)"
    private static void letters() {
        DUE.promise(6);
        for (char yes : new char[] {'a', 'z', 'A', 'Z'}) {
            fault("strap" + yes + " 0;", 1, 0);
            fault(yes + "strap 0;", 1, 0);
        }
        for (char no : new char[] {'a' - 1, 'z' + 1, 'A' - 1, 'Z' + 1}) {
            fault("strap" + no + " 0;", 1, 5);
            fault(no + "strap 0;", 1, 0);
            fault("strap 0" + no + ";", 1, 7);
        }
        stands("strap0;strap1;");
        fault("strap 0;strapstrap 1;", 1, 8);
        fault("STRAP 0;", 1, 0);
        fault("stra p 0;", 1, 0);
        fault("stra", 1, 0);
    }

    // Promise 6 by Terms: "digits likewise (NUMBERS, 0 .. 9999)"
    private static void digits() {
        DUE.promise(6);
        stands("bears 0;reaches 9999;");
        stands("bears 00000000009999;");
        fault("bears 10000;", 2, 6);
        fault("bears 1 0;", 1, 8);
        fault("bears 2147483648;", 2, 6);
        fault("bears 4294967296;", 2, 6);
        fault("bears 18446744073709551616;", 2, 6);
        fault("bears 1" + "0".repeat(200) + ";", 2, 6);
        fault("bears 9/;", 1, 8);
        fault("bears 9:;", 1, 7);
        stands("bears 9/9;");
    }

    // Promise 6 by Terms: "<= >= < > = # + - * / ( ) ; (the longest)"
    private static void longestTokens() {
        DUE.promise(6);
        for (String sign : new String[] {"<=", ">=", "<", ">", "=", "#"}) {
            stands("bears if 1" + sign + "2 then 1 else 2 end;");
        }
        fault("bears if 1< =2 then 1 else 2 end;", 1, 12);
        fault("bears if 1> =2 then 1 else 2 end;", 1, 12);
        fault("bears if 1==2 then 1 else 2 end;", 1, 11);
        fault("bears if 1=<2 then 1 else 2 end;", 1, 11);
        fault("bears if 1=>2 then 1 else 2 end;", 1, 11);
        fault("bears if 1<>2 then 1 else 2 end;", 1, 11);
        fault("bears if 1<==2 then 1 else 2 end;", 1, 12);
        fault("bears if 1<<=2 then 1 else 2 end;", 1, 11);
        fault("bears if 1!=2 then 1 else 2 end;", 1, 10);
        fault("bears if 1##2 then 1 else 2 end;", 1, 11);
        fault("bears if 1<", 1, 11);
        fault("bears if 1<=", 1, 12);
        stands("bears (1)+2-3*4/5;");
    }

    // Promise 6 by Terms: "1 it can't stand there, or is none."
    // Promise 6 by Terms: "reaches SUM ; or bears SUM ; (each once) or kin NUMBER kept NUMBER ; (TEMPER) or reach NUMBER ; or down NUMBER by NUMBER ; or
    // strap NUMBER ; or swap NUMBER with NUMBER ; or dinner NUMBER ;."
    // Promise 6 by Terms: "SUM: PRODUCT {+ or - PRODUCT}. PRODUCT: ONE {* or / ONE}. ONE: NUMBER, NAME, ( SUM ), - ONE, across ONE"
    // Promise 6 by Terms: "if EITHER then SUM else SUM end. EITHER: BOTH {or BOTH}. BOTH: ASK {and ASK}. ASK: not ASK, or SUM one of < <= > >= = #
    // (unlike) SUM."
    private static void cantStand() {
        DUE.promise(6);
        String[] words = {"reaches", "bears", "kin", "kept", "reach", "down", "by", "strap", "swap", "with", "dinner", "who", "temper", "seat", "beside",
            "loose", "across", "quiver", "if", "then", "else", "end", "or", "and", "not", "<=", ">=", "<", ">", "=", "#", "+", "-", "*", "/", "(", ")",
            ";", "1"};
        String first = " reaches bears kin reach down strap swap dinner ";
        String one = " kept dinner who temper seat across quiver if - ( 1 ";
        String behindOne = " + - * / ; ";
        for (String word : words) {
            String w = " " + word + " ";
            alone("", word, first.contains(w));
            alone("strap 0; ", word, first.contains(w));
            alone("strap ", word, word.equals("1"));
            alone("kin 0 ", word, word.equals("kept"));
            alone("down 0 ", word, word.equals("by"));
            alone("swap 0 ", word, word.equals("with"));
            alone("strap 0 ", word, word.equals(";"));
            alone("kin 0 kept 0 ", word, word.equals(";"));
            alone("bears ", word, one.contains(w) || word.equals("loose"));
            alone("reaches ", word, one.contains(w) || word.equals("beside"));
            alone("bears 1 ", word, behindOne.contains(w));
            alone("bears ( 1 ", word, " + - * / ) ".contains(w));
            alone("bears if ", word, one.contains(w) || word.equals("loose") || word.equals("not"));
            alone("bears if 1 ", word, " + - * / <= >= < > = # ".contains(w));
            alone("bears if 1 < 2 ", word, " + - * / or and then ".contains(w));
            alone("bears if 1 < 2 or ", word, one.contains(w) || word.equals("loose") || word.equals("not"));
            alone("bears if 1 < 2 then 3 ", word, " + - * / else ".contains(w));
            alone("bears if 1 < 2 then 3 else 4 ", word, " + - * / end ".contains(w));
        }
    }

    /** A word that can stand there has no FAULT at its own place; of one that can't it is FAULT 1, but for a NAME of the other law. */
    private static void alone(String ahead, String word, boolean can) {
        boolean name = ahead.startsWith("bears") && word.equals("beside") || ahead.startsWith("reaches") && word.equals("loose");
        QuiverKin x = new QuiverKin();
        Due.text(x, ahead + word + " !");
        if (name && x.fault(0) == 5) {
            DUE.is("where " + word + " behind " + ahead + " is at fault", x.fault(1), ahead.length());
            return;
        }
        DUE.is("FAULT of " + ahead + word, x.fault(0), 1);
        DUE.is("where " + ahead + word + " is at fault", x.fault(1), ahead.length() + (can ? word.length() + 1 : 0));
    }

    private static void number(String ahead, String behind, int low, int high) {
        stands(ahead + low + behind);
        stands(ahead + high + behind);
        if (low > 0) {
            fault(ahead + (low - 1) + behind, 2, ahead.length());
        }
        fault(ahead + (high + 1) + behind, 2, ahead.length());
        fault(ahead + "10000" + behind, 2, ahead.length());
        fault(ahead + "4294967297" + behind, 2, ahead.length());
        fault(ahead + "-1" + behind, ahead.startsWith("bears") ? 0 : 1, ahead.startsWith("bears") ? -1 : ahead.length());
    }

    // Promise 6 by Terms: "2 a NUMBER that isn't one of those told (above 9999; TEMPER 0 .. 9, KEPT 0 .. 99, KIN 0 .. 5, of down by 1 .. 99,
    // DINNERS 1 .. 60)."
    private static void numbersTold() {
        DUE.promise(6);
        number("bears ", ";", 0, 9999);
        number("kin ", " kept 0;", 0, 9);
        number("kin 9 kept ", ";", 0, 99);
        number("reach ", ";", 0, 5);
        number("down ", " by 1;", 0, 5);
        number("down 5 by ", ";", 1, 99);
        number("strap ", ";", 0, 5);
        number("swap ", " with 0;", 0, 5);
        number("swap 5 with ", ";", 0, 5);
        number("dinner ", ";", 1, 60);
    }

    private static final String[] OPENERS = {"( ", "across ", "quiver ", "- ", "if ", "not "};

    // Promise 6 by Terms: "3 the 9th of ( not across quiver if and - (of one ONE) that are open around one another (at it)."
    private static void ninthOpen() {
        DUE.promise(6);
        // Seven of a sort and the 8th of each other one stand; the 9th doesn't.
        for (String seven : new String[] {"( ", "across ", "quiver ", "- "}) {
            for (String last : new String[] {"( ", "across ", "quiver ", "- "}) {
                String eight = "bears " + seven.repeat(7) + last;
                stands(eight + "1" + (last.equals("( ") ? ")" : "") + (seven.equals("( ") ? ")".repeat(7) : "") + ";");
                for (String ninth : new String[] {"( ", "across ", "quiver ", "- ", "if "}) {
                    fault(eight + ninth + "1", 3, eight.length());
                }
            }
        }
        String seven = "bears ((((((( ";
        stands(seven + "if 1 < 2 then 1 else 2 end ) ) ) ) ) ) );");
        stands(seven + "if 1 < 2 or 1 < 2 and 1 < 2 then 1 else 2 end ) ) ) ) ) ) );");
        for (String inside : new String[] {"if ", "if 1 < ", "if 1 < 2 or ", "if 1 < 2 and ", "if 1 < 2 then ", "if 1 < 2 then 1 else "}) {
            for (String ninth : OPENERS) {
                boolean can = !ninth.equals("not ") || inside.equals("if ") || inside.endsWith("or ") || inside.endsWith("and ");
                fault(seven + inside + ninth + "1", can ? 3 : 1, seven.length() + inside.length());
            }
        }
        stands("bears if not not not not not not not 1 < 2 then 1 else 2 end;");
        for (String ninth : OPENERS) {
            String eight = "bears if not not not not not not not ";
            fault(eight + ninth + "1", 3, eight.length());
            fault(eight + "1 < " + ninth + "1", ninth.equals("not ") ? 1 : 3, eight.length() + 4);
        }
        String ifs = "if 1 < ".repeat(8);
        fault("bears " + ifs + "( 1", 3, 6 + ifs.length());
        stands("bears " + ifs + "2" + " then 1 else 2 end".repeat(8) + ";");
    }

    // Promise 6 by Terms: "that are open around one another"
    private static void closedAgain() {
        DUE.promise(6);
        String eight = "((((((((1))))))))";
        stands("bears " + eight + "+" + eight + "*" + eight + ";");
        stands("bears --------1+--------1;");
        stands("bears 1" + "-1".repeat(20) + ";");
        stands("bears (((((((across 1+across 1-quiver 1*-1/(1))))))));");
        stands("bears (((((((if 1<2 then 1 else 2 end+if 1<2 then 1 else 2 end)))))));");
        stands("bears if not not not not not not not 1<2 and not not not not not not not 1<2 or not 1<2 then -------1 else (((((((1))))))) end;");
        stands("bears " + eight + ";reaches " + eight + ";");
        fault("bears " + eight + "+(" + eight + ");", 3, 32);
        fault("bears " + eight + ";reaches -" + eight + ";", 3, 40);
        // A law that was cut short leaves nothing open for the next TEXT.
        QuiverKin x = new QuiverKin();
        Due.text(x, "bears ((((((((");
        DUE.is("text() behind one that was cut short", Due.text(x, "bears " + eight + ";"), 0);
    }

    // Promise 6 by Terms: "4 reaches, bears for the second time (at it)."
    private static void secondLaw() {
        DUE.promise(6);
        stands("reaches 1;bears 1;");
        stands("bears 1;strap 0;reaches 1;");
        fault("reaches 1;reaches 1;", 4, 10);
        fault("bears 1;bears 1;", 4, 8);
        fault("bears 1;reaches 1;bears", 4, 18);
        fault("reaches 1;bears 1;strap 0;reaches 1;", 4, 26);
        // Told once in each TEXT it is not the second time.
        QuiverKin x = new QuiverKin();
        for (int i = 0; i < 4; i++) {
            DUE.is("text(), the " + i + "th", Due.text(x, "reaches 1;bears 1;"), i);
        }
    }

    // Promise 6 by Terms: "5 a NAME that isn't of that CLAUSE (at it)."
    // Promise 6 by Terms: "NAMES: dinner, who, temper, kept (of it), seat in both"
    private static void namesOfClauses() {
        DUE.promise(6);
        for (String both : new String[] {"dinner", "who", "temper", "kept", "seat"}) {
            stands("reaches " + both + ";bears " + both + ";");
        }
        stands("reaches beside;bears loose;");
        fault("reaches loose;", 5, 8);
        fault("bears beside;", 5, 6);
        fault("bears 1;reaches 1+(loose);", 5, 19);
        fault("reaches 1;bears if 1<beside then 1 else 2 end;", 5, 21);
        fault("bears ((((((((beside))))))));", 5, 14);
        fault("strap loose;", 1, 6);
        fault("kin beside kept 1;", 1, 4);
    }

    private static String laws(int n) {
        return "bears 1;" + "strap 0;".repeat(n - 1);
    }

    // Promise 6 by Terms: "6 the 25th CLAUSE (at its first TOKEN)."
    // Promise 5 by Terms: "{CLAUSE}, 24 at most"
    private static void clauses() {
        DUE.promise(6);
        stands(laws(23));
        stands(laws(24));
        stands(laws(24) + " ".repeat(50));
        fault(laws(25), 6, 192);
        fault(laws(24) + "  reaches 1;", 6, 194);
        fault(laws(24) + "strap", 6, 192);
        fault(laws(24) + "strap 9;", 6, 192);
        QuiverKin x = Due.table(0, 0);
        Due.text(x, laws(24));
        DUE.is("all 24 are played", x.played(0), -1);
        DUE.is("STEPS", x.about(3), 23);
    }

    // Promise 6 by Terms: "of one the least"
    private static void leastOfOne() {
        DUE.promise(6);
        fault("strap 1 99999;", 1, 8);
        fault("bears 1;bears reaches;", 4, 8);
        fault("bears bears;", 1, 6);
        fault("bears 1 beside;", 1, 8);
        fault("bears ((((((((1 (", 1, 16);
        fault("bears ((((((((not", 1, 14);
        fault(laws(24) + "bears 1;", 4, 192);
        fault(laws(24) + ";", 1, 192);
        fault(laws(24) + "99999", 1, 192);
        fault(laws(24) + "loose", 1, 192);
    }

    // Promise 6 by Terms: "FAULTS, the first as TOKENS are come to"
    private static void firstOfAll() {
        DUE.promise(6);
        fault("strap 6; !", 2, 6);
        fault("dinner 61;!;bears 1;bears 1;", 2, 7);
        fault("bears 1;bears !", 4, 8);
        fault("bears beside 10000;", 5, 6);
        fault("bears (((((((((10000", 3, 14);
        fault("kin 10 kept 100;", 2, 4);
        fault("down 6 by 0;", 2, 5);
        fault("swap 6 by 0;", 2, 5);
        fault("strap 0;!strap 9;", 1, 8);
    }

    // ---- 7 and 13: by, played

    // Promise 7: "THE TEXT (NONE: none): true. False for others."
    private static void byOthers() {
        DUE.promise(7);
        // There are two TEXTS in the house.
        EDGE.refused(6, "by(v)", (x, v) -> Edge.bit(x.by(v)), 0, Edge.outside(-1, 1));
        EDGE.refused(QuiverKin::new, "by(v) of none", (x, v) -> Edge.bit(x.by(v)), 0, Edge.outside(-1, -1));
        QuiverKin x = Due.table(4, 0);
        DUE.is("by(-1) of none", x.by(-1), true);
        for (int i = 0; i < 4; i++) {
            DUE.is("by(" + i + ") ahead of it", x.by(i), false);
            Due.text(x, "reaches " + i + ";");
            DUE.is("by(" + i + ")", x.by(i), true);
            DUE.is("THE TEXT", x.about(2), i);
            DUE.is("reaches", x.of(0, 4), i);
        }
        DUE.is("by(4)", x.by(4), false);
        DUE.is("THE TEXT", x.about(2), 3);
        DUE.is("by(-1)", x.by(-1), true);
        DUE.is("reaches", x.of(0, 4), 4);
    }

    // Promise 13: "PLAYED by a TEXT: NONE: all is done; else the number of the CLAUSE that can't be. -2 for others."
    private static void playedOthers() {
        DUE.promise(13);
        EDGE.refused(6, "played(v)", (x, v) -> x.played(v), -2, 2, 3, 4, -1, -2, MIN, MAX);
        EDGE.refused(QuiverKin::new, "played(v) of none", (x, v) -> x.played(v), -2, 0, -1, -2, MIN, MAX);
        QuiverKin x = Due.table(0, 0);
        for (int i = 0; i < 4; i++) {
            DUE.is("played(" + i + ") ahead of it", x.played(i), -2);
            Due.text(x, "strap 0;");
            DUE.is("played(" + i + ")", x.played(i), -1);
        }
        DUE.is("played(4)", x.played(4), -2);
    }

    private static void played(String text, int due, int steps) {
        QuiverKin x = Due.table(0, 3, 0, 99);
        Due.text(x, text);
        DUE.is("played " + text, x.played(0), due);
        DUE.is("STEPS behind " + text, x.about(3), steps);
    }

    // Promise 13 by Terms: "PLAYED by a TEXT: its CLAUSES but laws, in their order, as by hand; one that can't be ends it (of so many DINNERS those that can pass do): its
    // number among all CLAUSES (from 0); what was done stays."
    private static void playedAtEdges() {
        DUE.promise(13);
        played("", -1, 0);
        played("bears 1;reaches 1;", -1, 0);
        played("reach 2;", 0, 0);
        played("bears 1;reaches 1;reach 2;reach 0;", 2, 0);
        played("down 0 by 3;down 0 by 1;reach 0;", 1, 1);
        played("down 0 by 4;reach 0;", 0, 0);
        played("reach 1;", -1, 1);
        played("strap 0;reach 0;reach 1;", 1, 1);
        played("swap 0 with 0;reach 1;", 0, 0);
        played("swap 0 with 2;reach 1;", 0, 0);
        played("swap 1 with 0;swap 0 with 1;", -1, 2);
        played("kin 9 kept 99;kin 0 kept 0;kin 0 kept 0;kin 0 kept 0;kin 0 kept 0;reach 0;", 4, 0);
        played("kin 9 kept 99;reach 2;", -1, 1);
        played("strap 0;".repeat(23) + "strap 2;", 23, 23);
        played("strap 0;".repeat(24), -1, 24);
        played("dinner 60;", -1, 30);
        QuiverKin x = Due.table(0, 3);
        Due.text(x, "reach 0;down 0 by 9;reach 0;");
        x.played(0);
        DUE.is("what was done stays", x.of(0, 1), 4);
        x.played(0);
        DUE.is("played anew", x.of(0, 1), 5);
        DUE.is("THE TEXT is none yet", x.about(2), -1);
    }

    // Promise 13 by Terms: "(of so many DINNERS those that can pass do)"
    private static void playedDinners() {
        DUE.promise(13);
        int[][] rows = {{9960, 39, -1, 9999}, {9960, 40, 1, 9999}, {9960, 38, -1, 9998}, {9998, 1, -1, 9999}, {9998, 2, 1, 9999}, {9999, 1, 1, 9999},
            {9999, 60, 1, 9999}, {9939, 60, -1, 9999}};
        for (int[] row : rows) {
            QuiverKin x = Full.late(Math.max(row[0], 9960));
            for (int i = row[0]; i < 9960; i++) {
                x.undo();
            }
            Due.text(x, "bears 99;dinner " + row[1] + ";strap 1;");
            int kept = x.of(1, 1);
            DUE.is("played, dinner " + row[1] + " at " + row[0], x.played(1), row[2]);
            DUE.is("DINNER", x.is(0), row[3]);
            DUE.is("what comes behind", x.of(1, 3), row[2] < 0 ? 1 : 0);
            DUE.is("STEPS of 30", x.about(3), 30);
            if (row[0] >= 9960) {
                DUE.is("REACHED in those that can pass", x.of(1, 1), kept + row[3] - row[0]);
            }
        }
    }

    // ---- laws: SUMS at their edges

    private static void sum(String sum, int due) {
        QuiverKin x = Due.ruled(Due.table(7, 30, 2, 41), "bears " + sum + ";");
        DUE.is(sum, x.of(1, 5), due);
    }

    // Promise 16 by Terms: "From the left"
    private static void fromTheLeft() {
        DUE.promise(16);
        sum("9-3-2", 4);
        sum("9-(3-2)", 8);
        sum("80/4/2", 10);
        sum("80/(4/2)", 40);
        sum("7/2*2", 6);
        sum("7*2/2", 7);
        sum("1+2*3", 7);
        sum("- 1 + 9", 8);
        sum("9+-1*3", 6);
        sum("- -9", 9);
    }

    // Promise 16 by Terms: "/ cuts towards 0, by 0 it is 0"
    private static void cuts() {
        DUE.promise(16);
        sum("1/2", 0);
        sum("2/2", 1);
        sum("3/2", 1);
        sum("50+-1/2", 50);
        sum("50+-2/2", 49);
        sum("50+-3/2", 49);
        sum("50+3/-2", 49);
        sum("50+-3/-2", 51);
        sum("1/0", 0);
        sum("0/0", 0);
        sum("50+-1/0", 50);
        sum("50+9999*9999/0", 50);
        sum("50+7/(3-3)", 50);
        sum("50+0/-1", 50);
    }

    // Promise 16 by Terms: "what is above 1000000 (below the same less) is that, at each step."
    private static void millions() {
        DUE.promise(16);
        // 999900 is 9999 * 100: what is above it is seen.
        sum("999*1001-9999*100", 99);
        sum("1000*1000-9999*100-50", 50);
        sum("1000*1000-1-9999*100-50", 49);
        sum("1000*1000+1-9999*100-50", 50);
        sum("1000*1000+9999-9999*100-50", 50);
        sum("1000*1000+1-1-9999*100-50", 49);
        sum("1000*1001-9999*100-50", 50);
        sum("9999*9999-9999*100-50", 50);
        sum("9999*9999*9999*9999-9999*100-50", 50);
        sum("-1000*1000+9999*100+150", 50);
        sum("-1000*1000+1+9999*100+149", 50);
        sum("-1000*1000-1+9999*100+150", 50);
        sum("-1000*1000-9999+9999*100+150", 50);
        sum("-1000*1000-1+1+9999*100+149", 50);
        sum("-9999*9999+9999*100+150", 50);
        sum("9999*-9999*9999+9999*100+150", 50);
        sum("-(9999*-9999)-9999*100-50", 50);
        sum("-9999*9999*-9999-9999*100-50", 50);
        sum("(9999*9999-9999*100)/2", 50);
        sum("9999*9999/9999", 99);
        sum("9999*9999/9999-50", 50);
        sum("1000*1000-1000*1000", 0);
    }

    // Promise 16 by Terms: "or and and look at both sides always, of if just the SUM that is chosen is asked."
    private static void asks() {
        DUE.promise(16);
        String[] sign = {"<", "<=", ">", ">=", "=", "#"};
        boolean[][] so = {{true, false, false}, {true, true, false}, {false, false, true}, {false, true, true}, {false, true, false}, {true, false, true}};
        for (int i = 0; i < 6; i++) {
            for (int left = 0; left < 3; left++) {
                sum("if " + (left + 4) + sign[i] + "5 then 7 else 8 end", so[i][left] ? 7 : 8);
                sum("if not " + (left + 4) + sign[i] + "5 then 7 else 8 end", so[i][left] ? 8 : 7);
            }
        }
        sum("if -1<0 then 7 else 8 end", 7);
        sum("if 9999*9999>1000*1000 then 7 else 8 end", 8);
        sum("if 9999*9999=1000*1000 then 7 else 8 end", 7);
        sum("if 1<2 or 1<2 and 2<1 then 7 else 8 end", 7);
        sum("if 2<1 and 1<2 or 2<1 then 7 else 8 end", 8);
        for (int i = 0; i < 6; i++) {
            for (int k = 0; k < 6; k++) {
                for (int left = 4; left <= 6; left++) {
                    boolean a = so[i][left - 4];
                    boolean b = so[k][1];
                    String asked = left + sign[i] + "5 and 5" + sign[k] + "5";
                    sum("50+if " + asked + " then 7 else 8 end+1", a && b ? 58 : 59);
                    sum("50+if not " + asked + " then 7 else 8 end+1", !a && b ? 58 : 59);
                    sum("50+if not " + asked.replace("and", "or") + " then 7 else 8 end*2", !a || b ? 64 : 66);
                }
            }
        }
        sum("if 1<2 then 7 else 9999*9999/0 end", 7);
        sum("if 2<1 then 9999*9999/0 else 8 end", 8);
    }

    // Promise 16 by Terms: "across ONE (who is ACROSS of the ONE OF THE KIN of that number; 0 for others), quiver ONE (KEPT of the ONE OF THE KIN of
    // that number; 0 for others)"
    private static void othersOfNames() {
        DUE.promise(16);
        for (int kin = 1; kin <= 6; kin++) {
            for (int of = 0; of < 7; of++) {
                QuiverKin x = new QuiverKin();
                for (int i = 0; i < kin; i++) {
                    x.kin(0, 20 + i);
                }
                Due.ruled(x, "reaches across " + of + ";bears quiver " + of + ";");
                DUE.is("across " + of + " of " + kin, x.of(0, 4), of < kin ? (of + kin / 2) % kin : 0);
                DUE.is("quiver " + of + " of " + kin, x.of(0, 5), of < kin ? 20 + of : 0);
            }
        }
        for (String of : new String[] {"3", "6", "9999", "-1", "-9999", "(9999*9999)", "(-9999*9999)"}) {
            QuiverKin x = Due.ruled(Due.table(0, 50, 0, 60, 0, 70), "reaches 2+across " + of + ";bears 2+quiver " + of + ";");
            DUE.is("across " + of, x.of(0, 4), 2);
            DUE.is("quiver " + of, x.of(0, 5), 2);
        }
        QuiverKin last = Due.ruled(Due.table(0, 50, 0, 60, 0, 70), "reaches across 2+across 1*3;bears quiver 2;");
        DUE.is("across 2, around, and across 1", last.of(0, 4), 6);
        DUE.is("quiver 2", last.of(0, 5), 70);
    }

    // Promise 16 by Terms: "beside (KEPT of the one at the next SEAT, and at the one ahead, together: of two the other one's twice, of one its own twice) in
    // reaches"
    // Promise 16 by Terms: "beside a SEAT are the next and the one ahead of it, around"
    private static void beside() {
        DUE.promise(16);
        int[][] kept = {{1}, {1, 2}, {1, 2, 4}, {1, 2, 4, 0}, {1, 2, 4, 0, 3}, {1, 2, 4, 0, 3, 5}};
        int[][] due = {{2}, {4, 2}, {6, 5, 3}, {2, 5, 2, 5}, {5, 5, 2, 7, 1}, {7, 5, 2, 7, 5, 4}};
        for (int n = 1; n <= 6; n++) {
            QuiverKin x = new QuiverKin();
            for (int i = 0; i < n; i++) {
                x.kin(0, kept[n - 1][i]);
            }
            Due.ruled(x, "reaches beside;");
            for (int i = 0; i < n; i++) {
                DUE.is("beside " + i + " of " + n, x.of(i, 4), due[n - 1][i]);
            }
        }
        QuiverKin x = Due.ruled(Due.table(0, 1, 0, 3, 0, 0, 0, 0), "reaches beside;");
        x.swap(1, 2);
        // SEATS 0 2 1 3.
        DUE.is("by SEATS, of 0", x.of(0, 4), 0);
        DUE.is("by SEATS, of 2", x.of(2, 4), 4);
        DUE.is("by SEATS, around, of 3", x.of(3, 4), 4);
        x = Due.ruled(Due.table(0, 99, 0, 99, 0, 99), "reaches beside-190;");
        DUE.is("at most 198", x.of(0, 4), 8);
    }

    // Promise 16 by Terms: "loose (how many lines BOOK has then, 25 at most) in bears."
    private static void loose() {
        DUE.promise(16);
        QuiverKin x = Due.ruled(Due.table(0, 99), "reaches 10;bears 0;");
        Due.text(x, "bears loose;");
        for (int i = 0; i <= 30; i++) {
            x.by(1);
            DUE.is("loose behind " + i, x.of(0, 5), Math.min(i, 25));
            x.by(0);
            x.dinner(1);
        }
        x.undo();
        x.by(1);
        DUE.is("taken back, 25 yet", x.of(0, 5), 25);
    }

    // ---- 43 and 44: whose law

    // Promise 43: "TOLD: how many there are (kin NONE: none any more). -2 for others (0 .. 10), or if there are 8."
    private static void toldOthers() {
        DUE.promise(43);
        EDGE.refused(6, "told(v, 0)", (x, v) -> x.told(v, 0), -2, Edge.outside(-1, 5));
        EDGE.refused(3, "told(v, 0) of 3", (x, v) -> x.told(v, 0), -2, Edge.outside(-1, 2));
        EDGE.refused(0, "told(v, 0) of none", (x, v) -> x.told(v, 0), -2, Edge.outside(-1, -1));
        EDGE.refused(6, "told(5, v)", (x, v) -> x.told(5, v), -2, Edge.outside(0, 10));
        QuiverKin x = Due.table(0, 0, 0, 0, 0, 0, 0, 0, 0, 0, 0, 0);
        DUE.is("told(0, 0)", x.told(0, 0), 1);
        DUE.is("told(5, 10)", x.told(5, 10), 2);
        DUE.is("told(-1, 11)", x.told(-1, 11), 0);
        DUE.is("told(-1, MIN) of none", x.told(-1, MIN), 0);
        DUE.is("TOLD", x.about(6), 0);
        DUE.is("told(5, 0)", x.told(5, 0), 1);
    }

    private static QuiverKin toldOften(int n) {
        QuiverKin x = Due.table(3, 4, 3, 4);
        Due.text(x, "");
        for (int i = 0; i < n; i++) {
            x.told(i % 2, 3);
        }
        return x;
    }

    // Promise 43 by Terms: "WHOSE LAW (TOLD, 8 at most: one, reaches 0 .. 10)"
    private static void toldAtMost() {
        DUE.promise(43);
        DUE.is("the 8th", toldOften(7).told(0, 3), 8);
        EDGE.refused(() -> toldOften(8), "told(0, v), the 9th", (x, v) -> x.told(0, v), -2, 0, 3, 10, 11, MIN, MAX);
        QuiverKin x = toldOften(8);
        x.told(0, 4);
        DUE.is("the 9th isn't asked", x.whose(), 1);
        DUE.is("none any more", x.told(-1, 0), 0);
        for (int i = 1; i <= 8; i++) {
            DUE.is("told anew", x.told(1, i == 8 ? 4 : 3), i);
        }
        DUE.is("the 8th is asked", x.whose(), 0);
    }

    // Promise 44: "WHOSE LAW (bits)."
    // Promise 44 by Terms: "TEXTS (bits) by whose reaches (a TEXT without it: by what is so without) all are so (as now)."
    private static void whoseAtEdges() {
        DUE.promise(44);
        QuiverKin x = Due.table(9, 0, 0, 99);
        DUE.is("without TEXTS", x.whose(), 0);
        x.told(0, 9);
        DUE.is("without TEXTS, but TOLD", x.whose(), 0);
        Due.text(x, "");
        DUE.is("one without reaches", x.whose(), 1);
        Due.text(x, "bears 1;");
        Due.text(x, "reaches temper;");
        Due.text(x, "reaches 9;");
        DUE.is("all four", x.whose(), 15);
        x.told(1, 0);
        DUE.is("the last one isn't", x.whose(), 7);
        x.told(0, 0);
        DUE.is("two that can't be both", x.whose(), 0);
        x.told(-1, 0);
        DUE.is("nothing TOLD", x.whose(), 15);
        x.by(3);
        DUE.is("whatever rules", x.whose(), 15);
        x.strap(0);
        x.told(0, 8);
        DUE.is("of one who is STRAPPED, likewise", x.whose(), 0);
        QuiverKin y = Due.table(0, 0);
        Due.text(y, "reaches 11;");
        Due.text(y, "reaches 10;");
        Due.text(y, "reaches 0-1;");
        Due.text(y, "reaches 0;");
        y.told(0, 10);
        DUE.is("10 at most", y.whose(), 3);
        y.told(-1, 0);
        y.told(0, 0);
        DUE.is("0 at least", y.whose(), 12);
    }
}
