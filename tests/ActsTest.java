/** Promises 44 to 49: acts, grants, stops, judges. */
public final class ActsTest {
    private static final int BAD = CityRoad.BAD, STATE = CityRoad.STATE, NONE = CityRoad.NONE;
    private static final int NOTHING = 1, UNLIKE = 3, SIZE = 5;
    private static final Due due = new Due("ActsTest");

    public static void main(String[] args) {
        acts();
        manyActs();
        wrongActs();
        grants();
        stops();
        stopsWrong();
        judges();
        judgesWrong();
        due.end();
    }

    private static void act(CityRoad x, int i, int end, int later) {
        due.is("act(" + i + ")", x.act(i), end);
        due.is("later by act " + i, x.asked(), later);
    }

    private static void acts() {
        CityRoad x = new CityRoad();
        x.later(100);
        Due.rowOf(x, 1, 4, 1, 2, 10, NONE, NONE, 3, NONE, NONE, 0, 2, NONE, 200, 3, 3);
        due.is("acts(1)", x.acts(1), 303);
        act(x, 0, 114, 189);
        act(x, 1, 110, 189);
        act(x, 2, 103, 0);
        act(x, 3, 103, 0);
        act(x, 4, 303, 0);
        due.is("act(5)", x.act(5), NONE);
        due.is("act(-1)", x.act(-1), NONE);
        due.is("act(most)", x.act(Integer.MAX_VALUE), NONE);
        due.is("asked() stays", x.asked(), 0);
        x.later(5);
        due.is("of the latest acts()", x.act(0), 114);
        Due.rowOf(x, 2, 0, 0, 0);
        due.finds("refused", x, x.acts(2), UNLIKE);
        due.is("what is refused changes nothing", x.act(0), 114);
        Due.rowOf(x, 2, 0, NONE, NONE);
        due.is("acts(2)", x.acts(2), 105);
        act(x, 0, 105, 0);
        due.is("act(1)", x.act(1), NONE);
        x.tear(2);
        act(x, 0, 105, 0);
        Due.rowOf(x, 2, 5, NONE, 2, 7, NONE, 0, 1, NONE, NONE, 2, NONE, NONE, 3, 3, 0);
        due.is("acts(2)", x.acts(2), 118);
        act(x, 0, 111, 0);
        act(x, 1, 118, 0);
        act(x, 2, 106, 0);
        act(x, 3, 107, 8);
        act(x, 4, 114, 4);
    }

    private static void manyActs() {
        CityRoad x = new CityRoad();
        x.later(999);
        x.row(0, 39);
        for (int i = 0; i < 13; i++) {
            x.lay(0, 3 * i, 200);
            x.lay(0, 3 * i + 1, i == 12 ? NONE : i + 1);
            x.lay(0, 3 * i + 2, NONE);
        }
        due.is("acts of 13, one behind the other", x.acts(0), 999 + 2600);
        for (int i = 0; i < 13; i++) act(x, i, 999 + 200 * (13 - i), 0);
        x.lay(0, 37, 0);
        due.finds("all wait for themselves", x, x.acts(0), UNLIKE);
        due.is("act(12)", x.act(12), 1199);
        x.lay(0, 37, 13);
        due.finds("no such number", x, x.acts(0), UNLIKE);
        CityRoad y = new CityRoad();
        Due.rowOf(y, 0, 0, NONE, NONE, 0, 0, NONE);
        due.is("no days at all", y.acts(0), 0);
        act(y, 0, 0, 0);
        act(y, 1, 0, 0);
    }

    private static void wrongActs(int finding, int... numbers) {
        CityRoad x = new CityRoad();
        Due.rowOf(x, 0, numbers);
        due.finds("acts of " + numbers.length, x, x.acts(0), finding);
        due.is("none is there", x.act(0), NONE);
    }

    private static void wrongActs() {
        wrongActs(SIZE);
        wrongActs(SIZE, 1);
        wrongActs(SIZE, 1, NONE);
        wrongActs(SIZE, 1, NONE, NONE, 1);
        wrongActs(SIZE, new int[40]);
        wrongActs(UNLIKE, new int[39]);
        wrongActs(UNLIKE, -1, NONE, NONE);
        wrongActs(UNLIKE, 201, NONE, NONE);
        wrongActs(UNLIKE, 1, 1, NONE);
        wrongActs(UNLIKE, 1, NONE, -1);
        wrongActs(UNLIKE, 1, NONE, 0);
        wrongActs(UNLIKE, 1, 1, NONE, 1, NONE, 0);
        wrongActs(UNLIKE, 1, NONE, NONE, 1, 2, NONE, 1, 3, NONE, 1, 1, 0);
        CityRoad x = new CityRoad();
        due.is("acts(6)", x.acts(6), BAD);
        due.is("acts(-1)", x.acts(-1), BAD);
        due.finds("acts(0)", x, x.acts(0), NOTHING);
    }

    private static void grants() {
        CityRoad x = new CityRoad();
        Due.rowOf(x, 0, 7, 0, 0, 0);
        x.line(0, 2, 0);
        x.ramp(0, 8);
        x.grant(7, 20);
        x.grant(10, 0);
        due.is("grants(2, 0)", x.grants(2, 0), 1);
        due.is("days left, from TODAY", x.asked(), 20);
        due.is("so many tenths, cut", x.coins(), 14);
        due.is("grants(3, 0)", x.grants(3, 0), 1);
        due.is("all of it, on the last day", x.coins(), 21);
        x.later(4);
        due.is("grants(3, 0)", x.grants(3, 0), 0);
        due.is("too late", x.asked(), -4);
        due.is("nothing", x.coins(), 0);
        due.is("of a RAMP", x.grants(2, 1), 1);
        due.is("nothing", x.coins(), 0);
        Due.rowOf(x, 1, 16, NONE, NONE);
        x.acts(1);
        due.is("on the last day", x.grants(2, 0), 1);
        due.is("by the acts", x.asked(), 0);
        x.later(1);
        due.is("the end stays", x.grants(2, 0), 1);
        x.acts(1);
        due.is("a day too late", x.grants(2, 0), 0);
        due.is("below 0", x.asked(), -1);
        due.finds("no GRANT", x, x.grants(0, 0), UNLIKE);
        due.finds("no LINE", x, x.grants(2, 2), UNLIKE);
        due.is("grants(4, 0)", x.grants(4, 0), BAD);
        due.is("grants(2, 4)", x.grants(2, 4), BAD);
        due.is("grants(-1, 0)", x.grants(-1, 0), BAD);
        due.is("grants(2, -1)", x.grants(2, -1), BAD);
    }

    private static long cells(int... cells) {
        long set = 0;
        for (int c : cells) set |= 1L << c;
        return set;
    }

    private static void stop(CityRoad x, int a, int b, int... due1) {
        due.is("stop(" + a + ", " + b + ")", x.stop(a, b), due1.length);
        due.is("set()", x.set(), cells(due1));
    }

    private static void stops() {
        CityRoad x = new CityRoad();
        for (int c = 0; c < 64; c++) {
            if (c / 8 != 3) x.cell(c, 4, 0);
        }
        due.is("none can", x.stop(24, 31), NONE);
        due.is("set() stays", x.set(), 0);
        x.building(26, 0, 0, 1);
        x.building(28, 1, 0, 1);
        x.building(29, 2, 0, 1);
        stop(x, 24, 31, 26);
        stop(x, 31, 24, 29);
        stop(x, 26, 31, 28);
        stop(x, 26, 29, 28);
        due.is("neither end", x.stop(28, 29), NONE);
        Due.rowOf(x, 0, 0, 0, 0, 0);
        x.line(26, 27, 0);
        x.show(0);
        x.take(0, 0);
        stop(x, 24, 31, 28);
        x.cell(27, 0, 11);
        due.finds("no way even so", x, x.stop(24, 31), NOTHING);
        Due.ruleOf(x, "S11", 0);
        stop(x, 24, 31, 28);
        due.is("NONE", x.stop(24, 26), NONE);
        due.is("set() stays", x.set(), cells(28));

        CityRoad y = new CityRoad();
        int[] wall = {3, 11, 19, 27, 35, 43, 51, 59};
        for (int c : wall) y.building(c, 0, 0, 1);
        stop(y, 0, 7, wall);
        y.cell(18, 4, 0);
        stop(y, 0, 7, 3, 11, 27, 35, 43, 51, 59);
        y.cell(18, 0, 0);
        int[] near = {1, 8};
        y.building(1, 0, 0, 1);
        stop(y, 0, 7, wall);
        y.building(8, 0, 0, 1);
        stop(y, 0, 7, near);
        stop(y, 7, 0, near);
        y.building(6, 0, 0, 1);
        y.building(15, 0, 0, 1);
        stop(y, 7, 0, 6, 15);
        stop(y, 0, 7, near);
    }

    private static void stopsWrong() {
        CityRoad x = new CityRoad();
        due.is("stop(64, 0)", x.stop(64, 0), BAD);
        due.is("stop(0, 64)", x.stop(0, 64), BAD);
        due.is("stop(-1, 0)", x.stop(-1, 0), BAD);
        due.is("stop(0, -1)", x.stop(0, -1), BAD);
        due.is("stop(9, 9)", x.stop(9, 9), BAD);
        x.cell(1, 4, 0);
        x.cell(8, 4, 0);
        due.is("WATER at an end", x.stop(1, 0), STATE);
        due.is("STATE ahead of NOTHING", x.stop(0, 1), STATE);
        due.finds("no way", x, x.stop(0, 2), NOTHING);
        due.finds("no way", x, x.stop(2, 0), NOTHING);
    }

    private static void judges() {
        CityRoad x = new CityRoad();
        Due.rowOf(x, 0, 3, 0, 50, 0);
        Due.rowOf(x, 2, 90, 70);
        x.building(1, 0, 9, 100);
        x.building(9, 0, 9, 100);
        x.building(10, 1, 9, 100);
        x.building(63, 0, 9, 100);
        x.person(0, NONE, true, 1);
        x.person(0, NONE, true, 1);
        x.person(1, NONE, true, 1);
        x.cell(2, 2, 0);
        due.is("line(0, 2, 0)", x.line(0, 2, 0), 0);
        due.is("its COST", x.cost(0), 3 + 4 + 50);
        Due.rowOf(x, 1, 1, 0, 0, 0);
        due.tells("COST", x, x.judge(0, 1, 2), 57);
        Due.rowOf(x, 1, 0, 100, 0, 0);
        due.tells("PERSONS", x, x.judge(0, 1, 2), 200);
        Due.rowOf(x, 1, 0, 0, 10, 0);
        due.tells("PARK CELLS", x, x.judge(0, 1, 2), 10);
        Due.rowOf(x, 1, 0, 0, 0, 1);
        due.tells("HOUSES by NOISE", x, x.judge(0, 1, 2), 2);
        Due.rowOf(x, 1, 2, 3, 4, 5);
        due.tells("together", x, x.judge(0, 1, 2), 114 + 6 + 4 + 10);
        x.line(0, 2, 0);
        x.ramp(0, 8);
        due.tells("a RAMP", x, x.judge(2, 1, 2), 5);
        due.is("best(1, 2)", x.best(1, 2), 0);
        due.is("by how much", x.asked(), 134);
        x.line(62, 61, 0);
        due.is("best(1, 2)", x.best(1, 2), 3);
        due.is("by how much", x.asked(), 12 + 5);
        Due.rowOf(x, 1, 0, 0, 0, 0);
        due.is("the least of alike ones", x.best(1, 2), 0);
        due.is("by how much", x.asked(), 0);
        Due.ruleOf(x, "N70", 0);
        Due.rowOf(x, 1, 0, 0, 0, 7);
        due.tells("by the N IN FORCE", x, x.judge(3, 1, 2), 0);
        due.tells("one ROW for both", x, x.judge(0, 1, 1), 0);
    }

    private static void judgesWrong() {
        CityRoad x = new CityRoad();
        Due.rowOf(x, 0, 0, 100, 0, 0);
        x.row(1, 0);
        Due.rowOf(x, 2, 1, 2, 101, 4);
        Due.rowOf(x, 3, 1, -1, 3, 4);
        due.finds("best(5, 1)", x, x.best(5, 1), NOTHING);
        due.finds("best(0, 5)", x, x.best(0, 5), NOTHING);
        due.finds("best(1, 5)", x, x.best(1, 5), NOTHING);
        due.finds("best(1, 1)", x, x.best(1, 1), SIZE);
        due.finds("best(2, 1)", x, x.best(2, 1), UNLIKE);
        due.finds("best(3, 1)", x, x.best(3, 1), UNLIKE);
        due.is("best(0, 1) of none", x.best(0, 1), NONE);
        due.is("best(6, 1)", x.best(6, 1), BAD);
        due.is("best(0, 6)", x.best(0, 6), BAD);
        due.is("best(-1, 1)", x.best(-1, 1), BAD);
        due.is("best(0, -1)", x.best(0, -1), BAD);
        x.grant(1, 1);
        due.is("best(0, 1) of no LINE", x.best(0, 1), NONE);
        due.is("asked() stays", x.asked(), 0);
        x.line(0, 1, 0);
        due.is("judge(2, 0, 1)", x.judge(2, 0, 1), BAD);
        due.is("judge(-1, 0, 1)", x.judge(-1, 0, 1), BAD);
        due.is("judge(1, 6, 1)", x.judge(1, 6, 1), BAD);
        due.is("judge(1, 0, 6)", x.judge(1, 0, 6), BAD);
        due.is("judge(1, -1, 0)", x.judge(1, -1, 0), BAD);
        due.is("judge(1, 0, -1)", x.judge(1, 0, -1), BAD);
        due.finds("no LINE ahead of all", x, x.judge(0, 5, 5), UNLIKE);
        due.finds("judge(1, 5, 1)", x, x.judge(1, 5, 1), NOTHING);
        due.finds("judge(1, 0, 5)", x, x.judge(1, 0, 5), NOTHING);
        due.finds("judge(1, 1, 5)", x, x.judge(1, 1, 5), NOTHING);
        due.finds("judge(1, 1, 1)", x, x.judge(1, 1, 1), SIZE);
        due.finds("judge(1, 2, 1)", x, x.judge(1, 2, 1), UNLIKE);
        due.finds("judge(1, 3, 1)", x, x.judge(1, 3, 1), UNLIKE);
        due.tells("judge(1, 0, 1)", x, x.judge(1, 0, 1), 0);
    }
}
