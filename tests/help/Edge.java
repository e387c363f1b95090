import java.util.List;
import java.util.function.Supplier;

/** Calls with a number just outside of what they take, and with the least and the largest int: refused, and nothing is changed. */
final class Edge {
    interface Call {
        long of(QuiverKin x, int value);
    }

    private final Due due;

    Edge(Due due) {
        this.due = due;
    }

    static int[] outside(int low, int high) {
        return new int[] {low - 1, high + 1, Integer.MIN_VALUE, Integer.MAX_VALUE, Integer.MIN_VALUE + 1, 65536 + low, 1 << 30};
    }

    static long bit(boolean answer) {
        return answer ? 1 : 0;
    }

    void refused(int kin, String what, Call call, long refusal, int... values) {
        refused(() -> Full.house(kin), what, call, refusal, values);
    }

    /** What is seen behind the call is what is seen of one like it that was not asked. */
    void refused(Supplier<QuiverKin> make, String what, Call call, long refusal, int... values) {
        List<String> untouched = Seen.all(make.get());
        for (int value : values) {
            QuiverKin x = make.get();
            due.is(what + ", v = " + value, call.of(x, value), refusal);
            due.alike("behind " + what + ", v = " + value, Seen.all(x), untouched);
        }
    }

    /** The KIN of a full, a middling and an empty table: those that aren't. */
    void refusedKin(String what, Call call, long refusal) {
        refused(6, what + " of 6", call, refusal, outside(0, 5));
        refused(3, what + " of 3", call, refusal, outside(0, 2));
        refused(0, what + " of none", call, refusal, outside(0, -1));
    }
}
