/** Promises 1 to 10: rows, texts, days, cells. */
public final class RowsTest {
    private static final int BAD = CityRoad.BAD, STATE = CityRoad.STATE, NONE = CityRoad.NONE;
    private static final int NOTHING = 1, BEYOND = 2, SIZE = 5;
    private static final Due due = new Due("RowsTest");

    public static void main(String[] args) {
        newObject();
        rows();
        copies();
        texts();
        faults();
        days();
        cells();
        due.end();
    }

    private static void newObject() {
        CityRoad x = new CityRoad();
        for (int what = 0; what <= 9; what++) due.is("count(" + what + ") at first", x.count(what), 0);
        due.is("asked() at first", x.asked(), 0);
        due.is("set() at first", x.set(), 0);
        due.is("coins() at first", x.coins(), 0);
        due.is("finding() at first", x.finding(), 0);
        for (int f = 1; f <= 5; f++) due.is("findings(" + f + ") at first", x.findings(f), 0);
        due.is("act(0) at first", x.act(0), NONE);
        for (int r = 0; r < 6; r++) due.finds("tear at first", x, x.tear(r), NOTHING);
        for (int t = 0; t < 4; t++) due.finds("fault at first", x, x.fault(t), NOTHING);
    }

    private static void rows() {
        CityRoad x = new CityRoad();
        due.is("row(0, 0)", x.row(0, 0), 0);
        due.is("row(5, 40)", x.row(5, 40), 40);
        due.is("row(6, 1)", x.row(6, 1), BAD);
        due.is("row(-1, 1)", x.row(-1, 1), BAD);
        due.is("row(0, 41)", x.row(0, 41), BAD);
        due.is("row(6, -1)", x.row(6, -1), BAD);
        due.finds("row(0, -1)", x, x.row(0, -1), SIZE);
        due.finds("row(0, least)", x, x.row(0, Integer.MIN_VALUE), SIZE);
        due.is("row(0, most)", x.row(0, Integer.MAX_VALUE), BAD);
        due.finds("lay(0, 0, 1) of none", x, x.lay(0, 0, 1), BEYOND);
        due.tells("lay(5, 39, least)", x, x.lay(5, 39, Integer.MIN_VALUE), 0);
        due.tells("lay(5, 39, 7)", x, x.lay(5, 39, 7), Integer.MIN_VALUE);
        due.finds("lay(5, 40, 7)", x, x.lay(5, 40, 7), BEYOND);
        due.finds("lay(5, -1, 7)", x, x.lay(5, -1, 7), BEYOND);
        due.is("asked() stays", x.asked(), Integer.MIN_VALUE);
        due.is("lay(6, 0, 7)", x.lay(6, 0, 7), BAD);
        due.finds("lay(1, -1, 7)", x, x.lay(1, -1, 7), NOTHING);
        due.is("row(5, 40) anew", x.row(5, 40), 40);
        due.tells("lay(5, 39, 1) is 0 again", x, x.lay(5, 39, 1), 0);
        due.is("count(8)", x.count(8), 2);
        due.is("tear(5)", x.tear(5), 1);
        due.is("count(8)", x.count(8), 1);
        due.finds("tear(5)", x, x.tear(5), NOTHING);
        due.is("tear(6)", x.tear(6), BAD);
        due.is("tear(-1)", x.tear(-1), BAD);
        due.is("row(5, 2)", x.row(5, 2), 2);
        due.tells("lay(5, 0, 1) is 0 again", x, x.lay(5, 0, 1), 0);
    }

    private static void copies() {
        CityRoad x = new CityRoad();
        Due.rowOf(x, 0, 1, 2, 3, 4, 5);
        Due.rowOf(x, 1, 6, 7, 8);
        due.is("copy(0, 0, 0, 1, 4)", x.copy(0, 0, 0, 1, 4), 1);
        int[] shifted = {1, 1, 2, 3, 4};
        for (int i = 0; i < 5; i++) due.tells("shifted up " + i, x, x.lay(0, i, 10 + i), shifted[i]);
        due.is("copy(0, 1, 0, 0, 4)", x.copy(0, 1, 0, 0, 4), 1);
        int[] back = {11, 12, 13, 14, 14};
        for (int i = 0; i < 5; i++) due.tells("shifted down " + i, x, x.lay(0, i, 20 + i), back[i]);
        due.is("copy(0, 3, 1, 1, 2)", x.copy(0, 3, 1, 1, 2), 1);
        int[] other = {6, 23, 24};
        for (int i = 0; i < 3; i++) due.tells("to another " + i, x, x.lay(1, i, 0), other[i]);
        due.finds("copy(0, 2, 1, 0, 4)", x, x.copy(0, 2, 1, 0, 4), BEYOND);
        due.finds("copy(0, 0, 1, 0, 4)", x, x.copy(0, 0, 1, 0, 4), BEYOND);
        due.finds("copy(0, -1, 1, 0, 1)", x, x.copy(0, -1, 1, 0, 1), BEYOND);
        due.finds("copy(0, 0, 1, -1, 1)", x, x.copy(0, 0, 1, -1, 1), BEYOND);
        due.is("copy(0, 5, 1, 3, 0)", x.copy(0, 5, 1, 3, 0), 1);
        due.finds("copy(0, 6, 1, 3, 0)", x, x.copy(0, 6, 1, 3, 0), BEYOND);
        due.finds("copy(0, 5, 1, 4, 0)", x, x.copy(0, 5, 1, 4, 0), BEYOND);
        due.finds("copy(0, -1, 1, 0, 0)", x, x.copy(0, -1, 1, 0, 0), BEYOND);
        due.finds("copy(0, most, 1, 0, 1)", x, x.copy(0, Integer.MAX_VALUE, 1, 0, 1), BEYOND);
        due.finds("copy(0, 1, 1, 0, most)", x, x.copy(0, 1, 1, 0, Integer.MAX_VALUE), BEYOND);
        due.finds("copy(0, 0, 2, 0, -1)", x, x.copy(0, 0, 2, 0, -1), SIZE);
        due.finds("copy(0, 9, 2, 0, 1)", x, x.copy(0, 9, 2, 0, 1), NOTHING);
        due.finds("copy(2, 0, 0, 9, 1)", x, x.copy(2, 0, 0, 9, 1), NOTHING);
        due.is("copy(6, 0, 0, 0, -1)", x.copy(6, 0, 0, 0, -1), BAD);
        due.is("copy(0, 0, 6, 0, -1)", x.copy(0, 0, 6, 0, -1), BAD);
    }

    private static void texts() {
        CityRoad x = new CityRoad();
        due.is("text(0, 0)", x.text(0, 0), 0);
        due.is("text(3, 40)", x.text(3, 40), 40);
        due.is("text(4, 1)", x.text(4, 1), BAD);
        due.is("text(-1, 1)", x.text(-1, 1), BAD);
        due.is("text(0, 41)", x.text(0, 41), BAD);
        due.finds("text(0, -1)", x, x.text(0, -1), SIZE);
        due.is("put(3, 39, 127)", x.put(3, 39, 127), 1032);
        due.is("put(3, 39, 128)", x.put(3, 39, 128), 1127);
        due.is("put(3, 39, 255)", x.put(3, 39, 255), 872);
        due.is("put(3, 39, 256 + 65)", x.put(3, 39, 256 + 65), 999);
        due.is("put(3, 39, 0)", x.put(3, 39, 0), 1065);
        due.is("put(4, 0, 0)", x.put(4, 0, 0), BAD);
        due.finds("put(3, 40, 0)", x, x.put(3, 40, 0), BEYOND);
        due.finds("put(3, -1, 0)", x, x.put(3, -1, 0), BEYOND);
        due.finds("put(0, 0, 0)", x, x.put(0, 0, 0), BEYOND);
        due.finds("put(1, 0, 0)", x, x.put(1, 0, 0), NOTHING);
        due.is("count(9)", x.count(9), 2);
        due.is("text(3, 40) anew", x.text(3, 40), 40);
        due.is("put(3, 39, 0) is blank again", x.put(3, 39, 0), 1032);
    }

    private static void fault(String signs, int want) {
        CityRoad x = new CityRoad();
        Due.textOf(x, 2, signs);
        due.is("fault of [" + signs + "]", x.fault(2), want);
    }

    private static void faults() {
        fault("", NONE);
        fault("    ", NONE);
        fault("S1", NONE);
        fault("S1F22T333M4444K5N6P7H8", NONE);
        fault("  S0001   F9999 ", NONE);
        fault("S", 1);
        fault("  S", 3);
        fault("S F", 1);
        fault("S12345", 5);
        fault("S1 2", 3);
        fault("1", 0);
        fault("A1", 0);
        fault("s1", 0);
        fault("S1X", 2);
        fault("SS1", 1);
        fault("S-1", 1);
        fault("S/", 1);
        fault("S1:", 2);
        fault("S1/", 2);
        fault("S1 \t", 3);
        CityRoad x = new CityRoad();
        Due.textOf(x, 0, "S1");
        x.put(0, 1, -12);
        due.is("fault at a byte below 0", x.fault(0), 1);
        due.is("fault(4)", x.fault(4), BAD);
        due.is("fault(-1)", x.fault(-1), BAD);
        due.finds("fault(1)", x, x.fault(1), NOTHING);
    }

    private static void days() {
        CityRoad x = new CityRoad();
        due.is("later(0)", x.later(0), 0);
        due.is("later(1000)", x.later(1000), BAD);
        due.is("later(998)", x.later(998), 998);
        due.is("later(2)", x.later(2), BAD);
        due.is("later(most)", x.later(Integer.MAX_VALUE), BAD);
        due.is("later(-1)", x.later(-1), BAD);
        due.is("count(0)", x.count(0), 998);
        due.is("later(1)", x.later(1), 999);
        due.is("later(1)", x.later(1), BAD);
        due.is("later(0)", x.later(0), 999);
    }

    private static void cells() {
        CityRoad x = new CityRoad();
        due.is("cell(0, 0, 0)", x.cell(0, 0, 0), 1);
        due.is("cell(63, 4, 99)", x.cell(63, 4, 99), 1);
        due.is("cell(64, 0, 0)", x.cell(64, 0, 0), BAD);
        due.is("cell(-1, 0, 0)", x.cell(-1, 0, 0), BAD);
        due.is("cell(0, 5, 0)", x.cell(0, 5, 0), BAD);
        due.is("cell(0, -1, 0)", x.cell(0, -1, 0), BAD);
        due.is("cell(0, 0, 100)", x.cell(0, 0, 100), BAD);
        due.is("cell(0, 0, -1)", x.cell(0, 0, -1), BAD);
        x.building(7, 0, 0, 1);
        due.is("cell(7, 4, 0)", x.cell(7, 4, 0), STATE);
        due.is("cell(7, 3, 0)", x.cell(7, 3, 0), 1);
        due.is("building on WATER", x.building(63, 0, 0, 1), STATE);
        due.is("cell(63, 1, 0)", x.cell(63, 1, 0), 1);
        due.is("building", x.building(63, 0, 0, 1), 1);
        Due.rowOf(x, 0, 0, 0, 0, 0);
        int l = x.line(6, 7, 0);
        x.show(l);
        x.take(0, l);
        due.is("cell(7, 4, 0) of one TAKEN", x.cell(7, 4, 0), 1);
    }
}
