import java.util.function.IntUnaryOperator;
import java.util.function.Supplier;
import java.util.function.ToIntFunction;

/** What the tests of the boundary cases share: the last number taken, the first that is not, and what a refusal leaves. */
final class Edge {
    static final int BAD = CityRoad.BAD, FULL = CityRoad.FULL, FINDING = CityRoad.FINDING;
    static final int STATE = CityRoad.STATE, NONE = CityRoad.NONE;
    static final int NOTHING = 1, BEYOND = 2, UNLIKE = 3, NOUGHT = 4, SIZE = 5;
    static final int LEAST = Integer.MIN_VALUE, MOST = Integer.MAX_VALUE;

    private final Due due;

    Edge(Due due) {
        this.due = due;
    }

    /** A call with one number that is looked at, on an object that is made anew for each number. */
    interface Call {
        int by(CityRoad x, int number);
    }

    /** From low to high (both tried) the call is taken; all beyond is BAD. */
    void span(String call, Supplier<CityRoad> made, int low, int high, Call asks, IntUnaryOperator want) {
        taken(call, made, low, asks, want.applyAsInt(low));
        taken(call, made, high, asks, want.applyAsInt(high));
        bad(call, made, asks, low - 1, high + 1, LEAST, MOST);
    }

    /** The same, where what is taken answers alike. */
    void span(String call, Supplier<CityRoad> made, int low, int high, Call asks, int want) {
        span(call, made, low, high, asks, number -> want);
    }

    void taken(String call, Supplier<CityRoad> made, int number, Call asks, int want) {
        due.is(call + " with " + number, asks.by(made.get(), number), want);
    }

    void bad(String call, Supplier<CityRoad> made, Call asks, int... numbers) {
        for (int number : numbers) refused(call + " with " + number, made.get(), y -> asks.by(y, number), BAD);
    }

    void finds(String call, CityRoad x, ToIntFunction<CityRoad> asks, int finding) {
        leaves(call, x, asks, FINDING, finding);
    }

    void refused(String call, CityRoad x, ToIntFunction<CityRoad> asks, int want) {
        leaves(call, x, asks, want, 0);
    }

    /** A refused call leaves all that is told as it was, but for its FINDING. */
    private void leaves(String call, CityRoad x, ToIntFunction<CityRoad> asks, int want, int finding) {
        long digest = x.digest();
        int asked = x.asked();
        long set = x.set();
        long coins = x.coins();
        int latest = finding == 0 ? x.finding() : finding;
        int[] counts = new int[6];
        for (int f = 1; f <= 5; f++) counts[f] = x.findings(f) + (f == finding ? 1 : 0);
        due.is(call, asks.applyAsInt(x), want);
        due.is(call + ": digest() stays", x.digest(), digest);
        due.is(call + ": asked() stays", x.asked(), asked);
        due.is(call + ": set() stays", x.set(), set);
        due.is(call + ": coins() stays", x.coins(), coins);
        due.is(call + ": finding()", x.finding(), latest);
        for (int f = 1; f <= 5; f++) due.is(call + ": findings(" + f + ")", x.findings(f), counts[f]);
    }

    /** A LINE by a ROW of costs that are all 0: it costs its turns alone. */
    static int freeLine(CityRoad x, int a, int b) {
        Due.rowOf(x, 5, 0, 0, 0, 0);
        return x.line(a, b, 5);
    }

    /** A LINE from a CELL to another one, SHOWN at once. */
    static int shownLine(CityRoad x, int a, int b) {
        int l = freeLine(x, a, b);
        x.show(l);
        return l;
    }
}
