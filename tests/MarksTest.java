/** Promises 21 to 33: lines, ramps, takings, those moved, grants, hearings. */
public final class MarksTest {
    private static final int BAD = CityRoad.BAD, FULL = CityRoad.FULL, STATE = CityRoad.STATE, NONE = CityRoad.NONE;
    private static final int NOTHING = 1, UNLIKE = 3, SIZE = 5;
    private static final Due due = new Due("MarksTest");

    public static void main(String[] args) {
        lineCosts();
        lineTies();
        lineWrong();
        ramps();
        manyMarks();
        shows();
        showTellings();
        lowered();
        takes();
        moves();
        grants();
        hearings();
        kinds();
        due.end();
    }

    private static void way(CityRoad x, int l, int... cells) {
        due.is("mark(" + l + ", 1)", x.mark(l, 1), cells.length);
        long set = 0;
        for (int i = 0; i < cells.length; i++) {
            due.is("cellOf(" + l + ", " + i + ")", x.cellOf(l, i), cells[i]);
            set |= 1L << cells[i];
        }
        due.is("cellOf(" + l + ", beyond)", x.cellOf(l, cells.length), NONE);
        due.is("over(" + l + ")", x.over(l), cells.length);
        due.is("set()", x.set(), set);
    }

    private static void lineCosts() {
        CityRoad x = new CityRoad();
        Due.rowOf(x, 0, 1, 10, 100, 1000);
        x.cell(1, 1, 0);
        x.cell(2, 2, 0);
        x.cell(3, 3, 0);
        for (int c = 8; c < 16; c++) x.cell(c, 4, 0);
        due.is("line(0, 4, 0)", x.line(0, 4, 0), 0);
        due.is("by SORTS", x.cost(0), 1 + 10 + 100 + 1000 + 1);
        way(x, 0, 0, 1, 2, 3, 4);
        x.building(1, 0, 0, 599);
        x.building(4, 2, 0, 100);
        due.is("line(4, 0, 0)", x.line(4, 0, 0), 1);
        due.is("and by WORTH, cut", x.cost(1), 1112 + 5 + 1);
        way(x, 1, 4, 3, 2, 1, 0);
        x.later(1);
        x.worth(0, 1000);
        x.cell(2, 2, 7);
        due.is("line(0, 4, 0)", x.line(0, 4, 0), 2);
        due.is("and by slopes, as of TODAY", x.cost(2), 1112 + 10 + 1 + 140);
        due.is("what stands stays", x.cost(0), 1112);
        x.cell(2, 2, 10);
        due.is("as steep as may be", x.line(0, 4, 0), 3);
        x.cell(2, 2, 11);
        due.finds("too steep", x, x.line(0, 4, 0), NOTHING);
        Due.ruleOf(x, "S11", 0);
        due.is("by the S IN FORCE", x.line(0, 4, 0), 4);
        x.show(4);
        x.take(0, 4);
        due.is("line(0, 4, 0)", x.line(0, 4, 0), 6);
        due.is("without one TAKEN; of one of WORTH 80", x.cost(6), 1112 + 220 + 0);
        x.cell(0, 4, 0);
        due.is("WATER at an end", x.line(0, 4, 0), STATE);
        due.is("WATER at an end", x.line(4, 0, 0), STATE);
    }

    private static void lineTies() {
        CityRoad x = new CityRoad();
        Due.rowOf(x, 0, 0, 0, 0, 0);
        due.is("line(9, 0, 0)", x.line(9, 0, 0), 0);
        due.is("a turn", x.cost(0), 5);
        way(x, 0, 9, 1, 0);
        x.line(0, 9, 0);
        way(x, 1, 0, 1, 9);
        x.line(18, 34, 0);
        due.is("straight", x.cost(2), 0);
        way(x, 2, 18, 26, 34);
        x.cell(26, 4, 0);
        x.line(18, 34, 0);
        due.is("around", x.cost(3), 10);
        way(x, 3, 18, 17, 16, 24, 32, 33, 34);
        Due.rowOf(x, 0, 5, 0, 0, 0);
        x.line(0, 63, 0);
        due.is("the least turns", x.cost(4), 15 * 5 + 5);
        way(x, 4, 0, 1, 2, 3, 4, 5, 6, 7, 15, 23, 31, 39, 47, 55, 63);
    }

    private static void lineWrong() {
        CityRoad x = new CityRoad();
        Due.rowOf(x, 0, 0, 1000, 0, 1000);
        Due.rowOf(x, 1, 1, 2, 3);
        Due.rowOf(x, 2, 1, 2, 3, 1001);
        Due.rowOf(x, 3, -1, 2, 3, 4);
        Due.rowOf(x, 4, 1, 2, 3, 4, 5);
        due.is("line(64, 0, 0)", x.line(64, 0, 0), BAD);
        due.is("line(0, 64, 0)", x.line(0, 64, 0), BAD);
        due.is("line(-1, 0, 0)", x.line(-1, 0, 0), BAD);
        due.is("line(0, -1, 0)", x.line(0, -1, 0), BAD);
        due.is("line(0, 1, 6)", x.line(0, 1, 6), BAD);
        due.is("line(0, 1, -1)", x.line(0, 1, -1), BAD);
        due.is("line(5, 5, 0)", x.line(5, 5, 0), BAD);
        Due.rowOf(x, 5, 0, 0, 0, 0, 5000);
        x.row(5, 4);
        due.is("what was behind its end is no cost", x.line(0, 9, 5), 0);
        x = new CityRoad();
        Due.rowOf(x, 0, 0, 1000, 0, 1000);
        Due.rowOf(x, 1, 1, 2, 3);
        Due.rowOf(x, 2, 1, 2, 3, 1001);
        Due.rowOf(x, 3, -1, 2, 3, 4);
        Due.rowOf(x, 4, 1, 2, 3, 4, 5);
        x.cell(1, 4, 0);
        due.finds("line(0, 1, 5)", x, x.line(0, 1, 5), NOTHING);
        due.finds("line(0, 1, 1)", x, x.line(0, 1, 1), SIZE);
        due.finds("line(0, 1, 4)", x, x.line(0, 1, 4), SIZE);
        due.finds("line(0, 1, 2)", x, x.line(0, 1, 2), UNLIKE);
        due.finds("line(0, 1, 3)", x, x.line(0, 1, 3), UNLIKE);
        due.is("line(0, 1, 0)", x.line(0, 1, 0), STATE);
        x.cell(8, 4, 0);
        due.finds("line(0, 2, 0)", x, x.line(0, 2, 0), NOTHING);
        due.is("count(5)", x.count(5), 0);
        int[] none = {0, -1, NONE};
        for (int l : none) {
            due.is("cellOf", x.cellOf(l, 0), BAD);
            due.is("cost", x.cost(l), BAD);
            due.is("shown", x.shown(l), BAD);
            due.is("over", x.over(l), BAD);
            due.is("show", x.show(l), BAD);
            due.is("told", x.told(l, 0), BAD);
            due.is("mark", x.mark(l, 1), BAD);
        }
        x.grant(1, 1);
        due.finds("cellOf of a GRANT", x, x.cellOf(0, 0), UNLIKE);
        due.finds("cost of a GRANT", x, x.cost(0), UNLIKE);
        due.finds("shown of a GRANT", x, x.shown(0), UNLIKE);
        due.finds("over of a GRANT", x, x.over(0), UNLIKE);
        due.finds("show of a GRANT", x, x.show(0), UNLIKE);
    }

    private static void ramps() {
        CityRoad x = new CityRoad();
        Due.rowOf(x, 0, 0, 0, 0, 0);
        x.line(8, 10, 0);
        x.cell(1, 4, 0);
        x.cell(2, 0, 99);
        due.is("on it", x.ramp(0, 9), STATE);
        due.is("WATER", x.ramp(0, 1), STATE);
        due.is("aslant", x.ramp(0, 3), STATE);
        due.is("the row's end is none", x.ramp(0, 7), STATE);
        due.is("ramp(0, 2), steep as it may be", x.ramp(0, 2), 1);
        due.is("COST 0", x.cost(1), 0);
        way(x, 1, 2);
        due.is("its CELL", x.mark(1, 2), 2);
        due.tells("on what it hangs", x, x.told(1, 2), 0);
        due.is("a RAMP of a RAMP", x.ramp(1, 3), 2);
        due.tells("on what it hangs", x, x.told(2, 2), 1);
        due.is("a RAMP on the LINE, of a RAMP", x.ramp(1, 10), 3);
        due.is("ramp(0, 64)", x.ramp(0, 64), BAD);
        due.is("ramp(0, -1)", x.ramp(0, -1), BAD);
        due.is("ramp(4, 0)", x.ramp(4, 0), BAD);
        x.grant(1, 1);
        due.finds("of no LINE, ahead of STATE", x, x.ramp(4, 1), UNLIKE);
        due.is("cellOf(1, -1)", x.cellOf(1, -1), NONE);
    }

    private static void manyMarks() {
        CityRoad x = new CityRoad();
        Due.rowOf(x, 0, 0, 0, 0, 0);
        x.building(0, 0, 2, 1);
        x.person(0, NONE, true, 1);
        x.building(30, 0, 2, 1);
        x.line(0, 1, 0);
        x.show(0);
        x.take(0, 0);
        for (int m = 2; m < 24; m++) due.is("grant", x.grant(1, 1), m);
        due.is("line", x.line(0, 1, 5), FULL);
        due.is("ramp", x.ramp(2, 1), FULL);
        due.is("take", x.take(0, 2), FULL);
        due.is("moved", x.moved(2, 0, 1), FULL);
        due.is("grant", x.grant(1, 1), FULL);
        due.is("hearing", x.hearing(2, 1, 1, 1), FULL);
        due.is("BAD ahead: line", x.line(1, 1, 5), BAD);
        due.is("BAD ahead: ramp", x.ramp(24, 1), BAD);
        due.is("BAD ahead: take", x.take(2, 2), BAD);
        due.is("BAD ahead: moved", x.moved(2, 1, 1), BAD);
        due.is("BAD ahead: grant", x.grant(0, 1), BAD);
        due.is("BAD ahead: hearing", x.hearing(2, 1, 24, 1), BAD);
        due.is("count(5)", x.count(5), 24);
    }

    private static void shows() {
        CityRoad x = new CityRoad();
        Due.rowOf(x, 0, 0, 0, 0, 0);
        x.building(18, 0, 0, 1000);
        x.building(22, 1, 0, 1000);
        x.building(6, 2, 0, 1000);
        x.building(23, 0, 0, 1000);
        x.building(17, 0, 0, 1000);
        x.building(44, 0, 0, 1000);
        x.line(20, 28, 0);
        due.is("shown(0)", x.shown(0), NONE);
        x.later(4);
        due.is("show(0)", x.show(0), 4);
        due.is("shown(0)", x.shown(0), 4);
        int[] worths = {800, 800, 800, 1000, 1000, 800};
        for (int b = 0; b < 6; b++) {
            due.is("value(" + b + ", 3)", x.value(b, 3), 1000);
            due.is("value(" + b + ", 4)", x.value(b, 4), worths[b]);
        }
        due.is("count(7)", x.count(7), 10);
        due.is("show(0) again", x.show(0), STATE);
        due.is("a RAMP", x.ramp(0, 21), 1);
        due.is("it is not SHOWN by its LINE", x.shown(1), NONE);
        due.is("show(1)", x.show(1), 3);
        due.is("once for each LINE", x.value(1, 4), 640);
        due.is("farther along", x.value(3, 4), 800);
        x.line(56, 57, 0);
        due.is("near none", x.show(2), 0);
    }

    private static void showTellings() {
        CityRoad x = new CityRoad();
        Due.rowOf(x, 0, 0, 0, 0, 0);
        x.building(0, 0, 0, 1000);
        x.building(1, 0, 0, 1000);
        x.line(8, 9, 0);
        x.line(62, 63, 0);
        for (int i = 0; i < 97; i++) x.worth(0, 1000);
        due.is("one telling left for two", x.show(0), FULL);
        due.is("nothing is told", x.value(0, 0) + x.value(1, 0), 2000);
        due.is("nor shown", x.shown(0), NONE);
        due.is("count(7)", x.count(7), 99);
        due.is("none is wanted", x.show(1), 0);
        due.is("STATE ahead of FULL", x.show(1), STATE);
        x.worth(1, 1000);
        x.line(46, 47, 0);
        due.is("none is wanted, none left", x.show(2), 0);
    }

    private static void lowered(String rule, int worth, int want) {
        CityRoad x = new CityRoad();
        Due.rowOf(x, 0, 0, 0, 0, 0);
        x.building(0, 0, 0, worth);
        if (!rule.isEmpty()) Due.ruleOf(x, rule, 0);
        x.line(8, 9, 0);
        x.show(0);
        due.is(rule + " of " + worth, x.value(0, 0), want);
    }

    private static void lowered() {
        lowered("", 100, 80);
        lowered("", 999, 799);
        lowered("", 1, 1);
        lowered("", 4, 3);
        lowered("F0", 77, 77);
        lowered("F1", 100000, 99000);
        lowered("F99", 250, 2);
        lowered("F100", 100000, 1);
        lowered("F101", 100000, 1);
        lowered("F9999", 100000, 1);
    }

    private static void takes() {
        CityRoad x = new CityRoad();
        Due.rowOf(x, 0, 0, 0, 0, 0);
        x.building(0, 0, 2, 1000);
        x.building(1, 1, 2, 333);
        x.building(2, 2, 2, 500);
        x.building(17, 0, 2, 500);
        x.person(0, NONE, true, 1);
        x.person(0, NONE, true, 1);
        x.line(0, 3, 0);
        x.later(2);
        x.worth(0, 2000);
        due.is("it is not SHOWN", x.take(0, 0), STATE);
        x.later(1);
        x.worth(0, 3000);
        x.show(0);
        x.building(3, 0, 0, 777);
        x.worth(3, 10);
        x.later(1);
        x.worth(0, 9000);
        due.is("take(0, 0)", x.take(0, 0), 1);
        due.is("the day ahead of the SHOW", x.asked(), 2000);
        due.tells("TAKEN", x, x.house(0, 4), 1);
        due.tells("none lives there", x, x.house(0, 3), 0);
        due.is("count(1)", x.count(1), 4);
        due.is("count(3)", x.count(3), 2);
        due.is("again", x.take(0, 0), STATE);
        due.is("not on its CELLS", x.take(3, 0), STATE);
        Due.ruleOf(x, "T150", 0);
        due.is("take(1, 0)", x.take(1, 0), 2);
        due.is("T in a hundred, cut", x.asked(), 499);
        Due.ruleOf(x, "T99", 5);
        due.is("take(4, 0)", x.take(4, 0), 3);
        due.is("its first telling of all, by TODAY's T", x.asked(), 777 * 150 / 100);
        due.is("paid", x.mark(3, 3), 1165);
        due.tells("KIND", x, x.told(3, 0), 3);
        due.tells("its day", x, x.told(3, 1), 4);
        due.tells("its LINE", x, x.told(3, 2), 0);
        due.is("take(5, 0)", x.take(5, 0), BAD);
        due.is("take(-1, 0)", x.take(-1, 0), BAD);
        due.is("take(2, 4)", x.take(2, 4), BAD);
        due.finds("by no LINE, ahead of STATE", x, x.take(0, 1), UNLIKE);
        x.ramp(0, 11);
        x.building(11, 0, 0, 60);
        x.show(4);
        due.is("by a RAMP", x.take(5, 4), 5);
        due.is("SHOWN on the day of its first telling", x.asked(), 90);
    }

    private static void moves() {
        CityRoad x = new CityRoad();
        Due.rowOf(x, 0, 0, 0, 0, 0);
        x.building(0, 0, 3, 100);
        x.building(60, 0, 1, 100);
        x.building(61, 1, 9, 100);
        x.building(62, 0, 2, 100);
        x.person(0, NONE, true, 1);
        x.person(0, NONE, true, 1);
        x.person(0, NONE, true, 1);
        x.person(NONE, NONE, true, 1);
        x.person(3, NONE, true, 1);
        x.line(0, 1, 0);
        x.show(0);
        x.take(0, 0);
        x.later(1);
        due.is("no HOUSE", x.moved(1, 0, 2), STATE);
        due.is("TAKEN", x.moved(1, 0, 0), STATE);
        due.is("did not live there", x.moved(1, 3, 1), STATE);
        due.is("lives elsewhere", x.moved(1, 4, 1), STATE);
        due.finds("by no TAKING", x, x.moved(0, 0, 1), UNLIKE);
        due.is("moved(1, 0, 1)", x.moved(1, 0, 1), 2);
        due.is("owed", x.asked(), 50);
        due.is("no ROOM left", x.moved(1, 1, 1), STATE);
        due.is("lives somewhere again", x.moved(1, 0, 3), STATE);
        due.finds("by a MOVED one, ahead of STATE", x, x.moved(2, 0, 3), UNLIKE);
        Due.ruleOf(x, "M0", 0);
        due.is("moved(1, 2, 3)", x.moved(1, 2, 3), 3);
        due.is("owed by the M IN FORCE", x.asked(), 0);
        due.is("no ROOM left", x.moved(1, 1, 3), STATE);
        due.tells("lives there", x, x.who(2, 0), 3);
        due.tells("how many", x, x.house(3, 3), 2);
        due.is("what is owed", x.mark(2, 3), 50);
        due.is("the PERSON", x.mark(2, 4), 0);
        due.is("the PERSON", x.mark(3, 4), 2);
        due.tells("KIND", x, x.told(3, 0), 4);
        due.tells("its day", x, x.told(3, 1), 1);
        due.tells("its TAKING", x, x.told(3, 2), 1);
        due.is("moved(4, 1, 1)", x.moved(4, 1, 1), BAD);
        due.is("moved(1, 5, 1)", x.moved(1, 5, 1), BAD);
        due.is("moved(1, -9, 1)", x.moved(1, NONE, 1), BAD);
        due.is("moved(1, 1, 4)", x.moved(1, 1, 4), BAD);
        due.is("moved(1, 1, -9)", x.moved(1, 1, NONE), BAD);
        x.line(61, 62, 0);
        x.show(4);
        x.take(3, 4);
        due.is("another TAKING of the same", x.moved(1, 4, 1), STATE);
        x.building(20, 0, 5, 1);
        due.is("MOVED twice", x.moved(5, 2, 4), 6);
        due.is("only as it was TAKEN", x.moved(1, 2, 4), STATE);
        due.is("the first TAKING still tells", x.moved(1, 1, 4), 7);
    }

    private static void grants() {
        CityRoad x = new CityRoad();
        due.is("grant(1, 0)", x.grant(1, 0), 0);
        x.later(2);
        due.is("grant(10, 999)", x.grant(10, 999), 1);
        due.is("grant(10, 1): a day gone by", x.grant(10, 1), 2);
        due.is("grant(0, 1)", x.grant(0, 1), BAD);
        due.is("grant(11, 1)", x.grant(11, 1), BAD);
        due.is("grant(1, -1)", x.grant(1, -1), BAD);
        due.is("grant(1, 1000)", x.grant(1, 1000), BAD);
        due.is("mark(1, 5)", x.mark(1, 5), 10);
        due.tells("KIND", x, x.told(1, 0), 5);
        due.tells("its day", x, x.told(1, 1), 2);
        due.tells("hangs on none", x, x.told(1, 2), NONE);
    }

    private static void hearings() {
        CityRoad x = new CityRoad();
        Due.rowOf(x, 0, 0, 0, 0, 0);
        x.building(0, 0, 9, 100);
        x.person(0, 5, true, 0);
        x.person(0, 5, false, 0);
        x.person(0, NONE, false, 0);
        x.person(NONE, NONE, true, 0);
        x.line(0, 1, 0);
        x.later(3);
        due.is("hearing(0, 6, 8, 3)", x.hearing(0, 6, 8, 3), 1);
        x.hearing(0, 6, 9, 3);
        x.hearing(0, 6, 16, 3);
        x.hearing(0, 6, 17, 3);
        x.hearing(0, 7, 8, 3);
        x.hearing(0, 7, 12, 3);
        x.hearing(0, 24 + 3, 0, 3);
        x.hearing(0, 24 + 4, 23, 3);
        int[] come = {3, 1, 1, 3, 1, 0, 3, 1};
        for (int i = 0; i < come.length; i++) due.is("could come " + i, x.mark(1 + i, 6), come[i]);
        x.ramp(0, 8);
        due.is("of a RAMP", x.hearing(9, 0, 0, 999), 10);
        due.tells("KIND", x, x.told(10, 0), 6);
        due.tells("its day", x, x.told(10, 1), 3);
        due.tells("its LINE", x, x.told(10, 2), 9);
        due.is("a day gone by", x.hearing(0, 0, 0, 2), STATE);
        due.finds("of no LINE, ahead of STATE", x, x.hearing(1, 0, 0, 2), UNLIKE);
        due.is("hearing(11, ..)", x.hearing(11, 0, 0, 3), BAD);
        due.is("hearing(.., 64, ..)", x.hearing(0, 64, 0, 3), BAD);
        due.is("hearing(.., -1, 3)", x.hearing(0, 0, -1, 3), BAD);
        due.is("hearing(.., 24, 3)", x.hearing(0, 0, 24, 3), BAD);
        due.is("hearing(.., -1)", x.hearing(0, 0, 0, -1), BAD);
        due.is("hearing(.., 1000)", x.hearing(0, 0, 0, 1000), BAD);
        x.show(0);
        x.take(0, 0);
        due.is("HOME now", x.mark(1, 6), 0);
    }

    private static void kinds() {
        CityRoad x = new CityRoad();
        Due.rowOf(x, 0, 0, 0, 0, 0);
        x.building(1, 0, 9, 100);
        x.building(20, 0, 9, 100);
        x.person(0, 5, true, 0);
        x.line(0, 1, 0);
        x.ramp(0, 8);
        x.show(0);
        x.take(0, 0);
        x.moved(2, 0, 1);
        x.grant(3, 1);
        x.hearing(0, 1, 1, 1);
        int[][] tells = {
            {2, -3, -3, -3, -3, -3}, {1, 8, -3, -3, -3, -3}, {-3, -3, 100, -3, -3, -3},
            {-3, -3, 50, 0, -3, -3}, {-3, -3, -3, -3, 3, -3}, {-3, -3, -3, -3, -3, 1},
        };
        for (int m = 0; m < 6; m++) {
            due.tells("told(" + m + ", 0)", x, x.told(m, 0), m + 1);
            for (int kind = 1; kind <= 6; kind++) {
                due.is("mark(" + m + ", " + kind + ")", x.mark(m, kind), tells[m][kind - 1]);
            }
            due.is("mark(.., 0)", x.mark(m, 0), BAD);
            due.is("mark(.., 7)", x.mark(m, 7), BAD);
            due.is("told(.., 3)", x.told(m, 3), BAD);
            due.is("told(.., -1)", x.told(m, -1), BAD);
        }
        due.is("findings(3)", x.findings(3), 28);
        due.is("finding()", x.finding(), UNLIKE);
        due.is("mark(6, 1)", x.mark(6, 1), BAD);
    }
}
