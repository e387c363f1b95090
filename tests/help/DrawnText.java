/** Draws numbers, and TEXTS: such as stand, and such with a FAULT. */
final class DrawnText {
    private long x;

    DrawnText(long seed) {
        x = seed;
    }

    int upTo(int n) {
        x = x * 6364136223846793005L + 1442695040888963407L;
        return (int) ((x >>> 33) % n);
    }

    String one(String... of) {
        return of[upTo(of.length)];
    }

    String text() {
        StringBuilder text = new StringBuilder();
        int many = upTo(8) == 0 ? 20 + upTo(8) : upTo(8);
        boolean twice = upTo(6) == 0;
        boolean reaches = false;
        boolean bears = false;
        for (int i = 0; i < many; i++) {
            int sort = upTo(many > 10 ? 24 : 10);
            if (sort == 0 && (twice || !reaches)) {
                reaches = true;
                text.append("reaches ").append(law(true));
            } else if (sort == 1 && (twice || !bears)) {
                bears = true;
                text.append("bears ").append(law(false));
            } else {
                text.append(deed());
            }
            text.append(one(";", ";", ";", " ; ", ";\n"));
        }
        if (upTo(10) == 0) {
            text = new StringBuilder((upTo(2) == 0 ? "reaches " : "bears ") + nested(6 + upTo(5)) + ";");
        }
        if (upTo(3) == 0) {
            mutate(text);
        }
        return text.length() > 300 ? text.substring(0, 300) : text.toString();
    }

    /** Mostly such as isn't cut off at 10 or 99, so that what it says is seen. */
    private String law(boolean reaches) {
        switch (upTo(4)) {
            case 0: return sum(reaches, 3 + upTo(3));
            case 1: return "if " + either(reaches, upTo(3)) + " then " + upTo(5) + "+" + single(reaches, 1) + "else 9-" + single(reaches, 0) + " end";
            case 2: return "5+(" + sum(reaches, 2) + ")/" + (1 + upTo(20));
            default: return "if " + either(reaches, upTo(2)) + " then " + upTo(5) + " else " + (5 + upTo(5)) + " end";
        }
    }

    private String deed() {
        boolean off = upTo(30) == 0;
        switch (upTo(6)) {
            case 0: return "kin " + number(0, 9, off) + one(" kept ", " kept", "kept ") + number(0, 99, off);
            case 1: return one("reach ", "reach") + number(0, 5, off);
            case 2: return "down " + number(0, 5, off) + " by " + number(1, upTo(2) == 0 ? 3 : 99, off);
            case 3: return "strap " + number(0, 5, off);
            case 4: return "swap " + number(0, 5, off) + "with" + number(0, 5, off);
            default: return "dinner " + number(1, upTo(3) == 0 ? 60 : 3, off);
        }
    }

    private String number(int low, int high, boolean off) {
        if (off) {
            return one("" + (low - 1), "" + (high + 1), "9999", "10000", "0000", "99999999999999999999", "007");
        }
        return one("", "", "", "00") + (low + upTo(high - low + 1));
    }

    private String sum(boolean reaches, int depth) {
        StringBuilder sum = new StringBuilder(product(reaches, depth));
        while (upTo(3) == 0) {
            sum.append(one("+", " - ", "-", " + ")).append(product(reaches, depth));
        }
        return sum.toString();
    }

    private String product(boolean reaches, int depth) {
        StringBuilder product = new StringBuilder(single(reaches, depth));
        while (upTo(4) == 0) {
            product.append(one("*", " / ", "/", "*")).append(single(reaches, depth));
        }
        return product.toString();
    }

    private String single(boolean reaches, int depth) {
        int sort = depth <= 0 ? upTo(2) : upTo(9);
        switch (sort) {
            case 0: return one("0", "1", "2", "3", "5", "7", "10", "99", "421", "9999", upTo(20) == 0 ? "10000" : "4");
            case 1: return one("dinner", "who", "temper", "kept", "seat", reaches ? "beside" : "loose", upTo(15) == 0 ? "loose" : "kept",
                upTo(15) == 0 ? "beside" : "who");
            case 2: return "(" + sum(reaches, depth - 1) + ")";
            case 3: return "-" + single(reaches, depth - 1);
            case 4: return "across " + single(reaches, depth - 1);
            case 5: return "quiver " + single(reaches, depth - 1);
            case 6: return "(9999*9999-" + single(reaches, depth - 1) + ")/" + one("9999", "100000", "99", "-99");
            default: return "if " + either(reaches, depth - 1) + " then " + sum(reaches, depth - 1) + " else " + sum(reaches, depth - 1) + " end";
        }
    }

    private String either(boolean reaches, int depth) {
        StringBuilder either = new StringBuilder(ask(reaches, depth));
        while (upTo(2) == 0) {
            either.append(one(" or ", " and ")).append(ask(reaches, depth));
        }
        return either.toString();
    }

    private String ask(boolean reaches, int depth) {
        if (depth > 0 && upTo(4) == 0) {
            return "not " + ask(reaches, depth - 1);
        }
        return sum(reaches, depth - 1) + one("<", "<=", ">", ">=", "=", "#") + sum(reaches, depth - 1);
    }

    /** So many open around one another. */
    private String nested(int deep) {
        if (deep <= 0) {
            return one("1", "kept", "who");
        }
        String within = nested(deep - 1);
        switch (upTo(6)) {
            case 0: return "(" + within + ")";
            case 1: return "- " + within;
            case 2: return "across " + within;
            case 3: return "quiver " + within;
            case 4: return "if 1<" + within + " then 1 else 2 end";
            default: return "if not " + nested(deep - 2) + "=1 then 1 else 2 end";
        }
    }

    private void mutate(StringBuilder text) {
        for (int i = upTo(3); i >= 0 && text.length() > 0; i--) {
            int at = upTo(text.length());
            switch (upTo(6)) {
                case 0: text.deleteCharAt(at); break;
                case 1: text.insert(at, (char) upTo(256)); break;
                case 2: text.setCharAt(at, one(";", " ", "(", ")", "0", "a", "=", "-", "<", ">").charAt(0)); break;
                case 3: text.setLength(at); break;
                case 4: text.insert(at, one(" then ", " end ", " kin ", " not ", " or ", ";;", " reaches ", " bears ", " beside ", " loose ", " by ", "Kept")); break;
                default: text.insert(at, one("(", "- - ", "across ", "quiver ", "10000", "if ")); break;
            }
        }
    }
}
