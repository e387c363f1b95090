import java.lang.reflect.Method;
import java.util.ArrayList;
import java.util.List;

/** Runs of drawn calls, each asked of a QuiverKin and of the Model; the draws are always the same ones. */
public final class AgainstModel {
    private static final int CALLS = 512;

    /** A call, and the least and the most of each of its numbers as they are mostly drawn. */
    private static final String[] CALL_RANGES = {
        "kin 0 9 0 12", "kin 0 9 0 99", "end 0 300", "text", "fault 0 1", "by -1 3", "reach 0 5", "reach 0 5", "down 0 5 1 9",
        "strap 0 5", "swap 0 5 0 5", "dinner 1 6", "dinner 1 60", "played 0 3", "years 0 9999 1 40", "undo", "undo", "undo",
        "of 0 5 0 6", "of 0 5 4 5", "at 0 5", "is 0 3", "is 1 1", "is 2 2", "book 0 24 0 3", "book -1 -1 0 3", "foretold 1 60 0 5",
        "foretold 1 5 0 5", "spite 0 5 0 5 0 99", "spite 0 5 0 5 0 3", "spite 0 5 0 5 0 3", "round 0 1", "seating 0 5", "seatings",
        "spiteNow", "mend 0 2", "hedge 0 35 0 3", "hedge 0 35 1 2", "hedge 0 35 1 2", "flight 0 35 0 3 0 3", "flight 0 35 0 3 0 3",
        "comes 0 35 0 3", "comes 0 35 0 3", "guess 0 124 0 3 0 3", "guess 0 124 0 1 0 1", "guess -1 -1 0 3 0 3", "answer 0 124 0 124",
        "fits", "fit 0 20", "ask", "gain 0 1 0 1 -99 99 -99 99", "gain 0 1 0 1 -3 3 -3 3", "gain 0 1 0 1 -3 3 -3 3", "rests", "mixed 0 1 0 1", "mixed 0 1 0 1",
        "saying 0 99 1 99", "saying 0 5 1 5", "saying -1 -1 0 99", "least 0 999 0 1", "least 0 20 0 1", "least 0 20 0 1",
        "near 1 9 0 12 1 12 0 1", "near 1 9 0 4 4 12 0 1", "game 1 5 1 5", "bite 0 55555 0 1", "told 0 5 0 10", "told -1 -1 0 10", "whose", "fullest",
        "calm", "ledger -1 5", "image", "back", "about 0 7"
    };

    private final DrawnText texts = new DrawnText(20261118L);
    private final List<String> run = new ArrayList<>();
    private QuiverKin real;
    private Model model;
    private int calls;

    public static void main(String[] args) throws Exception {
        AgainstModel all = new AgainstModel();
        for (int i = 0; i < 600; i++) {
            all.drawRun(i);
        }
        System.out.println("AgainstModel: 600 runs, " + all.calls + " calls, all alike");
    }

    private void drawRun(int number) throws Exception {
        real = new QuiverKin();
        model = new Model();
        run.clear();
        if (number % 20 == 7) {
            for (int i = 0; i < 166; i++) {
                ask("dinner", 60);
            }
        }
        int kin = texts.upTo(7);
        for (int i = 0; i < kin; i++) {
            ask("kin", texts.upTo(10), texts.upTo(20));
        }
        while (run.size() < CALLS - 70) {
            if (texts.upTo(25) == 0) {
                feedText(texts.text());
            } else if (number % 3 == 0 && texts.upTo(3) == 0) {
                drawOne(new String[] {"reach 0 5", "undo", "dinner 1 3", "foretold 1 9 0 5", "of 0 5 0 6"}[texts.upTo(5)]);
            } else {
                drawOne(CALL_RANGES[texts.upTo(CALL_RANGES.length)]);
            }
        }
        for (int what = -1; what < 9; what++) {
            ask("is", what);
            ask("about", what);
        }
        for (int i = 0; i < 4; i++) {
            ask("undo");
        }
    }

    private void drawOne(String call) throws Exception {
        String[] parts = call.split(" ");
        int[] numbers = new int[parts.length / 2];
        for (int i = 0; i < numbers.length; i++) {
            int low = Integer.parseInt(parts[2 * i + 1]);
            int high = Integer.parseInt(parts[2 * i + 2]);
            numbers[i] = texts.upTo(40) == 0 ? odd(low, high) : low + texts.upTo(high - low + 1);
        }
        if (parts[0].equals("bite") && texts.upTo(4) > 0) {
            numbers[0] = drawnShape();
        }
        ask(parts[0], numbers);
    }

    private int drawnShape() {
        int shape = 0;
        int width = 5;
        for (int i = 0; i < 5; i++) {
            width = Math.min(width, texts.upTo(7));
            shape = shape * 10 + width;
        }
        return shape;
    }

    private int odd(int low, int high) {
        int[] odd = {low - 1, high + 1, -1, -2, Integer.MIN_VALUE, Integer.MAX_VALUE, 65536, 1 << 30, -texts.upTo(1 << 30), texts.upTo(1 << 30)};
        return odd[texts.upTo(odd.length)];
    }

    private void feedText(String text) throws Exception {
        ask("end", 0);
        for (int i = 0; i < text.length(); i += 20) {
            int[] words = new int[5];
            for (int k = 0; k < 20; k++) {
                words[k / 4] = words[k / 4] << 8 | (i + k < text.length() ? text.charAt(i + k) : 0);
            }
            ask("feed", words);
        }
        ask("end", text.length());
        run.add("/* " + text.replace("\n", "\\n") + " */");
        int got = ask("text");
        ask("fault", 0);
        ask("fault", 1);
        if (got >= 0 && texts.upTo(4) > 0) {
            ask("by", got);
            for (int kin = 0; kin < 6; kin++) {
                ask("of", kin, 4);
                ask("of", kin, 5);
            }
        }
        if (got >= 0 && texts.upTo(2) == 0) {
            ask("played", got);
        }
    }

    private int ask(String name, int... numbers) throws Exception {
        StringBuilder call = new StringBuilder(name + "(");
        Object[] values = new Object[numbers.length];
        Class<?>[] types = null;
        for (Method m : QuiverKin.class.getDeclaredMethods()) {
            if (m.getName().equals(name) && java.lang.reflect.Modifier.isPublic(m.getModifiers())) {
                types = m.getParameterTypes();
            }
        }
        for (int i = 0; i < numbers.length; i++) {
            values[i] = types[i] == boolean.class ? (Object) (numbers[i] != 0) : (Object) numbers[i];
            call.append(i == 0 ? "" : ", ").append(values[i]);
        }
        run.add(call + ")");
        calls++;
        Object got = QuiverKin.class.getMethod(name, types).invoke(real, values);
        Method due = Model.class.getDeclaredMethod(name, types);
        Object want = due.invoke(model, values);
        if (!got.equals(want)) {
            for (String one : run) {
                System.out.println("  " + one);
            }
            System.out.println("answered " + got + ", due is " + want);
            System.exit(1);
        }
        return got instanceof Integer ? (Integer) got : 0;
    }
}
