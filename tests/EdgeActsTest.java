import java.util.Arrays;

/** The boundary cases of promises 44 to 55: acts, grants, stops, judges, and what is told. */
public final class EdgeActsTest {
    private static final int BAD = Edge.BAD, STATE = Edge.STATE, NONE = Edge.NONE;
    private static final int NOTHING = Edge.NOTHING, BEYOND = Edge.BEYOND, UNLIKE = Edge.UNLIKE, NOUGHT = Edge.NOUGHT, SIZE = Edge.SIZE;
    private static final int LEAST = Edge.LEAST, MOST = Edge.MOST;
    private static final int WATER = 4;
    private static final Due due = new Due("EdgeActsTest");
    private static final Edge edge = new Edge(due);

    public static void main(String[] args) {
        actsSizes();
        actsDays();
        actsAhead();
        actsThatWait();
        actsOrder();
        actsFromToday();
        actNumbers();
        actLater();
        actsRefusedChangeNone();
        grantsLastDay();
        grantsTenths();
        grantsByTheLatestActs();
        grantsOrder();
        stopOrder();
        stopNeitherEnd();
        stopNone();
        stopNoWrapAround();
        stopBySlope();
        stopTheFewest();
        stopTheNearest();
        stopThirtyTwo();
        judgeOrder();
        judgeWeights();
        judgeAboveN();
        bestOrder();
        bestOfNone();
        bestTheLeast();
        askedAtFirst();
        setAtFirst();
        countNumbers();
        findingsNumbers();
        digestOfNewAndFull();
        due.end();
    }

    private static CityRoad withRow(int... numbers) {
        CityRoad x = new CityRoad();
        Due.rowOf(x, 0, numbers);
        return x;
    }

    private static CityRoad plain() {
        return withRow(1, 1, 1, 1);
    }

    private static void act(CityRoad x, int i, int end, int later) {
        due.is("act(" + i + ")", x.act(i), end);
        due.is("LATER by act " + i, x.asked(), later);
    }

    // ---- promises 44, 45

    private static void actsSizes() {
        for (int size = 0; size <= 40; size++) {
            CityRoad x = new CityRoad();
            x.row(0, size);
            for (int i = 0; i < size; i++) x.lay(0, i, i % 3 == 0 ? 1 : NONE);
            if (size > 0 && size % 3 == 0) {
                due.is("acts of " + size + " numbers", x.acts(0), 1);
                due.is("the last one", x.act(size / 3 - 1), 1);
                due.is("none behind it", x.act(size / 3), NONE);
            } else {
                edge.finds("acts of " + size + " numbers", x, y -> y.acts(0), SIZE);
                due.is("none at all", x.act(0), NONE);
            }
        }
    }

    private static void actsDays() {
        for (int days : new int[] {0, 1, 199, 200}) due.is("acts of " + days + " days", withRow(days, NONE, NONE).acts(0), days);
        for (int days : new int[] {-1, 201, NONE, LEAST, MOST}) {
            edge.finds("acts of " + days + " days", withRow(days, NONE, NONE), y -> y.acts(0), UNLIKE);
            edge.finds("the last one of " + days + " days", withRow(1, NONE, NONE, days, NONE, NONE), y -> y.acts(0), UNLIKE);
        }
    }

    private static void actsAhead() {
        for (int place = 1; place <= 2; place++) {
            for (int ahead : new int[] {NONE, 1, 2}) {
                CityRoad x = withRow(5, NONE, NONE, 6, NONE, NONE, 7, NONE, NONE);
                x.lay(0, place, ahead);
                due.is("behind " + ahead, x.acts(0), ahead == NONE ? 7 : ahead == 1 ? 11 : 12);
            }
            for (int ahead : new int[] {-1, -2, -8, -10, 3, 12, 13, LEAST, MOST}) {
                CityRoad x = withRow(5, NONE, NONE, 6, NONE, NONE, 7, NONE, NONE);
                x.lay(0, place, ahead);
                edge.finds("behind " + ahead, x, y -> y.acts(0), UNLIKE);
            }
        }
        due.is("twice behind the same one", withRow(5, 1, 1, 6, NONE, NONE).acts(0), 11);
        due.is("behind both", withRow(5, 1, 2, 6, NONE, NONE, 9, NONE, NONE).acts(0), 14);
    }

    private static void actsThatWait() {
        edge.finds("for itself", withRow(1, 0, NONE), y -> y.acts(0), UNLIKE);
        edge.finds("for itself, by the other place", withRow(1, NONE, 0), y -> y.acts(0), UNLIKE);
        edge.finds("with no days at all", withRow(0, 0, 0), y -> y.acts(0), UNLIKE);
        edge.finds("two for one another", withRow(1, 1, NONE, 1, NONE, 0), y -> y.acts(0), UNLIKE);
        edge.finds("the last one for itself", withRow(1, NONE, NONE, 1, 0, NONE, 1, 2, 0), y -> y.acts(0), UNLIKE);
        int[] circle = new int[39];
        for (int i = 0; i < 13; i++) {
            circle[3 * i] = 1;
            circle[3 * i + 1] = (i + 1) % 13;
            circle[3 * i + 2] = NONE;
        }
        edge.finds("13 in a circle", withRow(circle), y -> y.acts(0), UNLIKE);
        circle[37] = NONE;
        due.is("13 in a row, the last one first", withRow(circle).acts(0), 13);
        for (int i = 0; i < 13; i++) circle[3 * i + 1] = i == 0 ? NONE : i - 1;
        due.is("13 in a row, the first one first", withRow(circle).acts(0), 13);
    }

    private static void actsOrder() {
        CityRoad x = withRow(201, NONE);
        edge.refused("BAD", x, y -> y.acts(6), BAD);
        edge.finds("NOTHING", x, y -> y.acts(1), NOTHING);
        edge.finds("SIZE ahead of UNLIKE", x, y -> y.acts(0), SIZE);
        x.row(0, 40);
        edge.finds("SIZE: 40 numbers", x, y -> y.acts(0), SIZE);
    }

    private static void actsFromToday() {
        CityRoad x = withRow(200, NONE, NONE);
        due.is("on day 0", x.acts(0), 200);
        x.later(999);
        act(x, 0, 200, 0);
        due.is("on the last day: beyond all days", x.acts(0), 1199);
        act(x, 0, 1199, 0);
        int[] all = new int[39];
        for (int i = 0; i < 13; i++) {
            all[3 * i] = 200;
            all[3 * i + 1] = i - 1 < 0 ? NONE : i - 1;
            all[3 * i + 2] = NONE;
        }
        Due.rowOf(x, 1, all);
        due.is("as late as can be", x.acts(1), 999 + 13 * 200);
        act(x, 12, 999 + 13 * 200, 0);
        CityRoad none = withRow(0, NONE, NONE);
        none.later(7);
        due.is("no days: TODAY", none.acts(0), 7);
        act(none, 0, 7, 0);
    }

    private static void actNumbers() {
        CityRoad x = new CityRoad();
        due.is("ahead of any acts()", x.act(0), NONE);
        Due.rowOf(x, 0, 3, NONE, NONE, 5, NONE, NONE);
        x.acts(0);
        act(x, 0, 3, 2);
        for (int i : new int[] {-1, 2, 12, 13, NONE, LEAST, MOST}) due.is("act(" + i + ")", x.act(i), NONE);
        due.is("asked() stays at NONE", x.asked(), 2);
        act(x, 1, 5, 0);
        Due.rowOf(x, 0, 4, NONE, NONE);
        act(x, 1, 5, 0);
        x.tear(0);
        act(x, 0, 3, 2);
        Due.rowOf(x, 0, 4, NONE, NONE);
        x.acts(0);
        act(x, 0, 4, 0);
        due.is("no longer there", x.act(1), NONE);
    }

    private static void actLater() {
        CityRoad x = withRow(10, NONE, NONE, 3, NONE, NONE, 4, 1, NONE, 2, 2, 0, 1, NONE, NONE);
        due.is("acts(0)", x.acts(0), 12);
        act(x, 0, 10, 0);
        act(x, 1, 3, 3);
        act(x, 2, 7, 3);
        act(x, 3, 12, 0);
        act(x, 4, 1, 11);
        CityRoad none = withRow(0, NONE, NONE, 0, 0, NONE, 200, NONE, NONE);
        due.is("acts(0)", none.acts(0), 200);
        act(none, 0, 0, 200);
        act(none, 1, 0, 200);
        act(none, 2, 200, 0);
    }

    private static void actsRefusedChangeNone() {
        CityRoad x = withRow(3, NONE, NONE, 5, NONE, NONE);
        Due.rowOf(x, 1, 4, NONE, NONE, 7, NONE, NONE, 2, 2, NONE);
        Due.rowOf(x, 2, 4, NONE, NONE, 7, NONE, NONE, 201, NONE, NONE);
        Due.rowOf(x, 3, 4, NONE, NONE, 7, NONE, NONE, 2);
        x.acts(0);
        for (int r = 1; r <= 4; r++) {
            int row = r;
            edge.finds("acts(" + r + ")", x, y -> y.acts(row), r == 4 ? NOTHING : r == 3 ? SIZE : UNLIKE);
            act(x, 0, 3, 2);
            act(x, 1, 5, 0);
            due.is("act(2)", x.act(2), NONE);
        }
    }

    // ---- promise 46

    private static CityRoad withGrant(int tenths, int until) {
        CityRoad x = withRow(7, 0, 0, 0);
        x.line(0, 2, 0);
        x.grant(tenths, until);
        return x;
    }

    private static void grantsLastDay() {
        CityRoad x = withGrant(10, 5);
        x.later(4);
        due.is("the day ahead of the last", x.grants(1, 0), 1);
        due.is("1 is left", x.asked(), 1);
        x.later(1);
        due.is("the last day", x.grants(1, 0), 1);
        due.is("0 are left", x.asked(), 0);
        due.is("it pays", x.coins(), 21);
        x.later(1);
        due.is("a day too late", x.grants(1, 0), 0);
        due.is("-1 is left", x.asked(), -1);
        due.is("it pays nothing", x.coins(), 0);
        x.later(993);
        x.grants(1, 0);
        due.is("as late as can be", x.asked(), -994);
        CityRoad y = withGrant(1, 999);
        y.grants(1, 0);
        due.is("as early as can be", y.asked(), 999);
    }

    private static void grantsTenths() {
        int[] pays = {2, 4, 6, 8, 10, 12, 14, 16, 18, 21};
        for (int tenths = 1; tenths <= 10; tenths++) {
            CityRoad x = withGrant(tenths, 0);
            due.is(tenths + " tenths of 21", x.grants(1, 0), 1);
            due.is("coins()", x.coins(), pays[tenths - 1]);
        }
        CityRoad x = withGrant(10, 0);
        x.ramp(0, 8);
        x.owed();
        due.is("of a RAMP: COST 0", x.grants(1, 2), 1);
        due.is("coins()", x.coins(), 0);
    }

    private static void grantsByTheLatestActs() {
        CityRoad x = withGrant(10, 10);
        Due.rowOf(x, 1, 10, NONE, NONE);
        Due.rowOf(x, 2, 11, NONE, NONE);
        Due.rowOf(x, 3, 11, NONE);
        x.acts(1);
        due.is("all ends on its last day", x.grants(1, 0), 1);
        due.is("0 are left", x.asked(), 0);
        x.later(5);
        due.is("TODAY does not matter", x.grants(1, 0), 1);
        due.is("0 are left", x.asked(), 0);
        x.acts(3);
        due.is("refused acts() do not matter", x.grants(1, 0), 1);
        x.acts(1);
        due.is("the latest acts()", x.grants(1, 0), 0);
        due.is("-5 are left", x.asked(), -5);
        x.acts(2);
        x.grants(1, 0);
        due.is("-6 are left", x.asked(), -6);
    }

    private static void grantsOrder() {
        CityRoad x = withGrant(10, 10);
        edge.bad("grants(g, 0)", () -> withGrant(10, 10), (y, g) -> y.grants(g, 0), -1, 2, 24, NONE, LEAST, MOST);
        edge.bad("grants(1, l)", () -> withGrant(10, 10), (y, l) -> y.grants(1, l), -1, 2, 24, NONE, LEAST, MOST);
        edge.refused("BAD (l) ahead of UNLIKE (g)", x, y -> y.grants(0, 2), BAD);
        edge.refused("BAD (g) ahead of UNLIKE (l)", x, y -> y.grants(2, 1), BAD);
        edge.finds("UNLIKE: no GRANT", x, y -> y.grants(0, 0), UNLIKE);
        edge.finds("UNLIKE: no LINE", x, y -> y.grants(1, 1), UNLIKE);
        edge.finds("UNLIKE: either", x, y -> y.grants(0, 1), UNLIKE);
    }

    // ---- promise 47

    private static long cells(int... cells) {
        long set = 0;
        for (int c : cells) set |= 1L << c;
        return set;
    }

    private static void stop(CityRoad x, int a, int b, int... want) {
        due.is("stop(" + a + ", " + b + ")", x.stop(a, b), want.length);
        due.is("set()", x.set(), cells(want));
    }

    private static void stopsNone(CityRoad x, int a, int b) {
        long set = x.set();
        due.is("stop(" + a + ", " + b + ")", x.stop(a, b), NONE);
        due.is("set() stays at NONE", x.set(), set);
    }

    private static void stopOrder() {
        CityRoad x = new CityRoad();
        x.cell(1, WATER, 0);
        x.cell(8, WATER, 0);
        edge.refused("BAD: a", x, y -> y.stop(-1, 1), BAD);
        edge.refused("BAD: b", x, y -> y.stop(1, 64), BAD);
        edge.refused("BAD: from itself, ahead of STATE", x, y -> y.stop(1, 1), BAD);
        edge.refused("STATE: the first end, ahead of NOTHING", x, y -> y.stop(1, 0), STATE);
        edge.refused("STATE: the other end, ahead of NOTHING", x, y -> y.stop(0, 1), STATE);
        edge.refused("STATE: both ends", x, y -> y.stop(1, 8), STATE);
        edge.finds("NOTHING: no way even so", x, y -> y.stop(0, 2), NOTHING);
        edge.finds("NOTHING: no way back", x, y -> y.stop(2, 0), NOTHING);
        x.building(0, 0, 0, 1);
        x.building(9, 0, 0, 1);
        edge.finds("NOTHING, whatever is built", x, y -> y.stop(0, 9), NOTHING);
    }

    private static void stopNeitherEnd() {
        CityRoad x = new CityRoad();
        for (int c = 8; c < 16; c++) x.cell(c, WATER, 0);
        x.building(0, 0, 0, 1);
        x.building(7, 0, 0, 1);
        stopsNone(x, 0, 7);
        x.building(3, 1, 0, 1);
        stop(x, 0, 7, 3);
        stop(x, 7, 0, 3);
        stop(x, 2, 7, 3);
        stopsNone(x, 3, 7);
        stopsNone(x, 0, 3);
        stop(x, 2, 4, 3);
        x.building(4, 2, 0, 1);
        stop(x, 0, 7, 3);
        stop(x, 7, 0, 4);
        stopsNone(x, 3, 4);
    }

    private static void stopNone() {
        CityRoad x = new CityRoad();
        stopsNone(x, 0, 63);
        stopsNone(x, 0, 1);
        x.building(1, 0, 0, 1);
        stopsNone(x, 0, 63);
        x.building(8, 0, 0, 1);
        stop(x, 0, 63, 1, 8);
        stopsNone(x, 0, 8);
        x.take(0, Edge.shownLine(x, 1, 2));
        stopsNone(x, 0, 63);
        x.building(1, 2, 0, 1);
        stop(x, 0, 63, 1, 8);
    }

    private static void stopNoWrapAround() {
        CityRoad x = new CityRoad();
        x.building(6, 0, 0, 1);
        x.building(15, 0, 0, 1);
        stop(x, 7, 8, 6, 15);
        stop(x, 8, 7, 6, 15);
        stop(x, 7, 63, 6, 15);
        CityRoad y = new CityRoad();
        for (int c = 3; c < 64; c += 8) y.building(c, 0, 0, 1);
        stop(y, 7, 8, 3, 11, 19, 27, 35, 43, 51, 59);
        stop(y, 32, 31, 3, 11, 19, 27, 35, 43, 51, 59);
    }

    private static void stopBySlope() {
        CityRoad x = new CityRoad();
        for (int c = 8; c < 16; c++) x.cell(c, WATER, 0);
        x.building(3, 0, 0, 1);
        x.cell(5, 0, 10);
        stop(x, 0, 7, 3);
        x.cell(5, 0, 11);
        edge.finds("too steep", x, y -> y.stop(0, 7), NOTHING);
        Due.ruleOf(x, "S11", 0);
        stop(x, 0, 7, 3);
        Due.ruleOf(x, "S0", 1);
        stop(x, 0, 7, 3);
        x.later(1);
        edge.finds("S 0", x, y -> y.stop(0, 7), NOTHING);
        stop(x, 0, 4, 3);
        CityRoad hill = new CityRoad();
        hill.cell(8, 0, 99);
        hill.building(1, 0, 0, 1);
        stop(hill, 0, 63, 1);
        stop(hill, 63, 0, 1);
    }

    private static void stopTheFewest() {
        CityRoad x = new CityRoad();
        for (int c : new int[] {1, 9, 8, 10, 17, 24}) x.building(c, 0, 0, 1);
        x.building(2, 0, 0, 1);
        stop(x, 0, 63, 1, 8);
        stop(x, 9, 63, 8, 1, 10, 17);
        CityRoad y = new CityRoad();
        for (int c = 24; c < 32; c++) y.building(c, 0, 0, 1);
        y.cell(20, WATER, 0);
        y.cell(21, WATER, 0);
        // 28 and 29 are come to by 27 and 30 alone; then 27 leads on to nothing but 30
        stop(y, 0, 63, 24, 25, 26, 27, 30, 31);
        for (int c : new int[] {35, 36, 37}) y.cell(c, WATER, 0);
        stop(y, 0, 63, 24, 25, 26, 30, 31);
    }

    private static void stopTheNearest() {
        CityRoad x = new CityRoad();
        for (int c = 8; c < 16; c++) x.cell(c, WATER, 0);
        for (int c = 1; c < 7; c++) x.building(c, 0, 0, 1);
        stop(x, 0, 7, 1);
        stop(x, 7, 0, 6);
        stop(x, 2, 7, 3);
        stop(x, 7, 5, 6);
        CityRoad y = new CityRoad();
        for (int c : new int[] {1, 8, 2, 9, 16}) y.building(c, 0, 0, 1);
        stop(y, 0, 63, 1, 8);
        stop(y, 63, 0, 1, 8);
        for (int c : new int[] {62, 55}) y.building(c, 0, 0, 1);
        stop(y, 63, 0, 62, 55);
        stop(y, 0, 63, 1, 8);
    }

    private static void stopThirtyTwo() {
        CityRoad x = new CityRoad();
        for (int c = 16; c < 48; c++) x.building(c, 0, 0, 1);
        due.is("32 BUILDINGS", x.count(1), 32);
        stop(x, 0, 63, 16, 17, 18, 19, 20, 21, 22, 23);
        stop(x, 63, 0, 40, 41, 42, 43, 44, 45, 46, 47);
        stop(x, 27, 63, 19, 26, 28, 35);
        stopsNone(x, 0, 15);
        stop(x, 16, 63, 24, 17, 18, 19, 20, 21, 22, 23);
        due.is("set()", x.set(), cells(17, 18, 19, 20, 21, 22, 23, 24));
    }

    // ---- promises 48, 49

    /** MARK 0 a LINE, 1 a GRANT; ROW 0 of costs and weights, 1 of size 3, 2 empty, 3 with a weight that is none; 4, 5 missing. */
    private static CityRoad forJudges() {
        CityRoad x = plain();
        x.line(0, 1, 0);
        x.grant(1, 1);
        Due.rowOf(x, 1, 101, 0, 0);
        x.row(2, 0);
        Due.rowOf(x, 3, 0, 0, 0, 101);
        x.tear(5);
        return x;
    }

    private static void judgeOrder() {
        CityRoad x = forJudges();
        edge.bad("judge(l, 0, 0)", EdgeActsTest::forJudges, (y, l) -> y.judge(l, 0, 0), -1, 2, 24, NONE, LEAST, MOST);
        edge.refused("BAD: weights, ahead of UNLIKE", x, y -> y.judge(1, 6, 0), BAD);
        edge.refused("BAD: noises, ahead of UNLIKE", x, y -> y.judge(1, 0, -1), BAD);
        edge.finds("UNLIKE: no LINE, ahead of NOTHING", x, y -> y.judge(1, 4, 4), UNLIKE);
        edge.finds("NOTHING: weights", x, y -> y.judge(0, 4, 2), NOTHING);
        edge.finds("NOTHING: noises, ahead of SIZE", x, y -> y.judge(0, 1, 4), NOTHING);
        edge.finds("NOTHING: noises, ahead of UNLIKE", x, y -> y.judge(0, 3, 5), NOTHING);
        edge.finds("SIZE: three, ahead of UNLIKE", x, y -> y.judge(0, 1, 2), SIZE);
        edge.finds("SIZE: none", x, y -> y.judge(0, 2, 2), SIZE);
        edge.finds("UNLIKE: a weight", x, y -> y.judge(0, 3, 2), UNLIKE);
        due.is("an empty ROW of noise", x.judge(0, 0, 2), 1);
    }

    private static void judgeWeights() {
        for (int size = 0; size <= 40; size++) {
            CityRoad x = forJudges();
            x.row(1, size);
            if (size == 4) due.tells("four weights", x, x.judge(0, 1, 2), 0);
            else edge.finds(size + " weights", x, y -> y.judge(0, 1, 2), SIZE);
            if (size == 4) due.is("four weights", x.best(1, 2), 0);
            else edge.finds(size + " weights", x, y -> y.best(1, 2), SIZE);
        }
        for (int place = 0; place < 4; place++) {
            for (int v : new int[] {0, 1, 99, 100}) {
                CityRoad x = forJudges();
                x.row(1, 4);
                x.lay(1, place, v);
                due.tells("weight " + v + " at " + place, x, x.judge(0, 1, 2), place == 0 ? 2 * v : 0);
                due.is("the best", x.best(1, 2), 0);
            }
            for (int v : new int[] {-1, 101, LEAST, MOST, NONE}) {
                CityRoad x = forJudges();
                x.row(1, 4);
                x.lay(1, place, v);
                edge.finds("weight " + v + " at " + place, x, y -> y.judge(0, 1, 2), UNLIKE);
                edge.finds("weight " + v + " at " + place, x, y -> y.best(1, 2), UNLIKE);
            }
        }
    }

    private static void judgeAboveN() {
        CityRoad x = forJudges();
        x.building(0, 0, 3, 1);
        x.building(3, 0, 3, 1);
        x.person(0, NONE, true, 1);
        x.person(0, NONE, true, 1);
        x.person(1, NONE, true, 1);
        x.cell(1, 2, 0);
        Due.rowOf(x, 1, 0, 0, 0, 1);
        Due.rowOf(x, 2, 61, 100, 61);
        due.tells("61 by N 60", x, x.judge(0, 1, 2), 2);
        Due.rowOf(x, 2, 61, 100, 60);
        due.tells("60 by N 60", x, x.judge(0, 1, 2), 1);
        Due.ruleOf(x, "N61", 0);
        due.tells("61 by N 61", x, x.judge(0, 1, 2), 0);
        Due.rowOf(x, 1, 100, 100, 100, 100);
        Due.rowOf(x, 2, 62, 62, 62);
        due.tells("all by the greatest weights", x, x.judge(0, 1, 2), 100 * (2 + 2 + 1 + 2));
    }

    private static void bestOrder() {
        CityRoad x = forJudges();
        edge.refused("BAD: weights", x, y -> y.best(6, 0), BAD);
        edge.refused("BAD: noises, ahead of NOTHING", x, y -> y.best(4, -1), BAD);
        edge.finds("NOTHING: weights", x, y -> y.best(4, 2), NOTHING);
        edge.finds("NOTHING: noises, ahead of SIZE", x, y -> y.best(1, 4), NOTHING);
        edge.finds("NOTHING: noises, ahead of UNLIKE", x, y -> y.best(3, 5), NOTHING);
        edge.finds("SIZE ahead of UNLIKE", x, y -> y.best(1, 2), SIZE);
        edge.finds("UNLIKE: a weight", x, y -> y.best(3, 2), UNLIKE);
    }

    private static void bestOfNone() {
        CityRoad x = plain();
        Due.rowOf(x, 1, 1, 2);
        Due.rowOf(x, 3, 0, 0, 0, 101);
        x.lay(0, 0, 9);
        edge.finds("NOTHING ahead of NONE", x, y -> y.best(0, 4), NOTHING);
        edge.finds("SIZE ahead of NONE", x, y -> y.best(1, 0), SIZE);
        edge.finds("UNLIKE ahead of NONE", x, y -> y.best(3, 0), UNLIKE);
        edge.refused("BAD ahead of NONE", x, y -> y.best(0, 6), BAD);
        int asked = x.asked();
        due.is("no MARK at all", x.best(0, 0), NONE);
        x.grant(1, 1);
        due.is("no LINE", x.best(0, 0), NONE);
        due.is("asked() stays at NONE", x.asked(), asked);
        int findings = x.findings(UNLIKE);
        x.best(0, 0);
        due.is("NONE is no FINDING", x.findings(UNLIKE), findings);
    }

    private static void bestTheLeast() {
        CityRoad x = plain();
        x.grant(1, 1);
        x.line(0, 3, 0);
        x.line(8, 10, 0);
        x.line(16, 18, 0);
        x.ramp(1, 4);
        x.row(1, 0);
        due.is("the least of alike ones; no RAMP", x.best(0, 1), 2);
        due.is("by how much", x.asked(), 3);
        Due.rowOf(x, 2, 0, 0, 0, 0);
        due.is("all are alike", x.best(2, 1), 1);
        due.is("by how much", x.asked(), 0);
        Due.rowOf(x, 2, 100, 0, 0, 0);
        due.is("the greatest weight", x.best(2, 1), 2);
        due.is("by how much", x.asked(), 300);
    }

    // ---- promises 50 to 55

    private static void askedAtFirst() {
        CityRoad x = new CityRoad();
        due.is("asked() at first", x.asked(), 0);
        x.lay(0, 0, 0);
        x.house(0, 0);
        x.mean(0);
        x.act(0);
        x.best(0, 0);
        due.is("asked() behind refusals", x.asked(), 0);
        x.row(0, 1);
        x.lay(0, 0, 5);
        x.lay(0, 0, 6);
        due.is("asked() behind lay()", x.asked(), 5);
        x.asked();
        x.digest();
        x.count(0);
        x.put(0, 0, 0);
        due.is("asked() stays", x.asked(), 5);
    }

    private static void setAtFirst() {
        CityRoad x = plain();
        due.is("set() at first", x.set(), 0);
        stopsNone(x, 0, 63);
        x.line(0, 1, 0);
        due.is("set() behind line()", x.set(), 0);
        x.over(0);
        due.is("set() behind over()", x.set(), 3);
        edge.refused("over(1)", x, y -> y.over(1), BAD);
        edge.refused("fall(0, 21)", x, y -> y.fall(0, 21), BAD);
        edge.refused("stop(0, 0)", x, y -> y.stop(0, 0), BAD);
        stopsNone(x, 0, 63);
        x.fall(0, 0);
        due.is("set() behind fall() of none", x.set(), 0);
        x.line(62, 63, 0);
        x.over(1);
        due.is("the last CELLS", x.set(), 3L << 62);
    }

    private static void countNumbers() {
        edge.span("count(what)", CityRoad::new, 0, 9, CityRoad::count, 0);
        edge.bad("count(what)", CityRoad::new, CityRoad::count, NONE, 99);
        CityRoad x = new CityRoad();
        for (int r = 0; r < 6; r++) x.row(r, r);
        for (int t = 0; t < 4; t++) x.text(t, t);
        due.is("all ROWS", x.count(8), 6);
        due.is("all TEXTS", x.count(9), 4);
        x.row(5, 0);
        x.text(3, 0);
        due.is("all ROWS still", x.count(8), 6);
        due.is("all TEXTS still", x.count(9), 4);
        x.later(999);
        due.is("TODAY", x.count(0), 999);
    }

    private static void findingsNumbers() {
        edge.span("findings(f)", CityRoad::new, 1, 5, CityRoad::findings, 0);
        edge.bad("findings(f)", CityRoad::new, CityRoad::findings, NONE, -3);
        CityRoad x = new CityRoad();
        due.is("finding() at first", x.finding(), 0);
        x.tear(9);
        x.tear(-1);
        due.is("BAD is no FINDING", x.finding(), 0);
        x.tear(0);
        due.is("NOTHING", x.finding(), NOTHING);
        x.row(0, 0);
        x.lay(0, 0, 0);
        due.is("BEYOND", x.finding(), BEYOND);
        x.mean(0);
        x.mean(1);
        due.is("NOUGHT", x.finding(), NOUGHT);
        x.row(0, -1);
        due.is("SIZE", x.finding(), SIZE);
        x.row(0, 1);
        x.lay(0, 0, 0);
        due.is("finding() stays", x.finding(), SIZE);
        int[] often = {BAD, 1, 1, 0, 2, 1, BAD};
        for (int f = 0; f <= 6; f++) due.is("findings(" + f + ")", x.findings(f), often[f]);
    }

    private static long hash(long h, int... values) {
        for (int v : values) h = 31 * h + v;
        return h;
    }

    private static void digestOfNewAndFull() {
        long h = hash(17, new int[10 + 128]);
        int[] missing = new int[10];
        Arrays.fill(missing, -1);
        due.is("digest() of a new object", new CityRoad().digest(), hash(h, missing));
        CityRoad x = new CityRoad();
        for (int r = 0; r < 6; r++) x.row(r, 40);
        for (int t = 0; t < 4; t++) x.text(t, 40);
        for (int i = 0; i < 40; i++) {
            x.lay(5, i, i % 2 == 0 ? MOST - i : LEAST + i);
            x.put(3, i, 200 + i);
        }
        for (int c = 0; c < 64; c++) x.cell(c, 3, 99);
        h = hash(17, 0, 0, 0, 0, 0, 0, 0, 0, 6, 4);
        for (int c = 0; c < 64; c++) h = hash(h, 3, 99);
        for (int r = 0; r < 5; r++) h = hash(hash(h, 40), new int[40]);
        h = hash(h, 40);
        for (int i = 0; i < 40; i++) h = hash(h, i % 2 == 0 ? MOST - i : LEAST + i);
        int[] blanks = new int[40];
        Arrays.fill(blanks, 32);
        for (int t = 0; t < 3; t++) h = hash(hash(h, 40), blanks);
        h = hash(h, 40);
        for (int i = 0; i < 40; i++) h = hash(h, (byte) (200 + i));
        due.is("digest() of full ROWS and TEXTS", x.digest(), h);
        int asked = x.asked();
        x.building(0, 0, 0, 1);
        x.digest();
        due.is("asked() stays at digest()", x.asked(), asked);
    }
}
