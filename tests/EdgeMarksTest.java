/** The boundary cases of promises 21 to 33: lines, ramps, takings, those moved, grants, hearings. */
public final class EdgeMarksTest {
    private static final int BAD = Edge.BAD, FULL = Edge.FULL, FINDING = Edge.FINDING, STATE = Edge.STATE, NONE = Edge.NONE;
    private static final int NOTHING = Edge.NOTHING, UNLIKE = Edge.UNLIKE, SIZE = Edge.SIZE;
    private static final int LEAST = Edge.LEAST, MOST = Edge.MOST;
    private static final int WATER = 4;
    private static final Due due = new Due("EdgeMarksTest");
    private static final Edge edge = new Edge(due);

    public static void main(String[] args) {
        marks24Ever();
        lineOrder();
        lineFromItself();
        lineRowSizes();
        lineRowCosts();
        lineSlopes();
        lineWater();
        lineNoWrapAround();
        lineOfTwoCells();
        lineWorthIsCut();
        lineOfTheGreatestCost();
        lineTurnsAndTies();
        rampBeside();
        rampOrder();
        cellOfEnds();
        showWithinTwo();
        showNoWrapAround();
        showTellingsLeft();
        showOrder();
        showOneAtLeast();
        takeOrder();
        takeWorthOfTheDayAhead();
        takeFirstTellingOfAll();
        takePaysCut();
        movedOrder();
        movedState();
        movedRooms();
        movedTwice();
        grantNumbers();
        hearingNumbers();
        hearingDays();
        couldComeSteps();
        couldComeHours();
        toldNumbers();
        markKinds();
        markNumbers();
        due.end();
    }

    private static CityRoad withCosts(int... costs) {
        CityRoad x = new CityRoad();
        Due.rowOf(x, 0, costs);
        return x;
    }

    private static CityRoad plain() {
        return withCosts(1, 1, 1, 1);
    }

    /** MARKS: 0 a LINE over 0, 1, 2, 3, SHOWN; 1 a RAMP at 8; 2 a TAKING of BUILDING 0; 3 one MOVED to 1; 4 a GRANT; 5 a HEARING. */
    private static CityRoad withAllKinds() {
        CityRoad x = plain();
        x.building(0, 0, 3, 500);
        x.building(60, 0, 1, 500);
        x.building(3, 1, 2, 500);
        x.building(48, 0, 2, 500);
        x.person(0, NONE, true, 1);
        x.person(0, NONE, true, 1);
        x.person(0, NONE, true, 1);
        x.person(NONE, NONE, true, 1);
        x.line(0, 3, 0);
        x.ramp(0, 8);
        x.show(0);
        x.take(0, 0);
        x.moved(2, 0, 1);
        x.grant(4, 9);
        x.hearing(0, 60, 20, 8);
        return x;
    }

    private static CityRoad withManyMarks(int number) {
        CityRoad x = withAllKinds();
        while (x.count(5) < number) x.grant(1, 1);
        return x;
    }

    private static void way(CityRoad x, int l, int... cells) {
        due.is("how many CELLS", x.mark(l, 1), cells.length);
        long set = 0;
        for (int i = 0; i < cells.length; i++) {
            due.is("cellOf(" + l + ", " + i + ")", x.cellOf(l, i), cells[i]);
            set |= 1L << cells[i];
        }
        due.is("over(" + l + ")", x.over(l), cells.length);
        due.is("set()", x.set(), set);
    }

    // ---- 24 MARKS

    private static void marks24Ever() {
        due.is("the 24th: line", withManyMarks(23).line(16, 17, 0), 23);
        due.is("the 24th: ramp", withManyMarks(23).ramp(0, 9), 23);
        due.is("the 24th: take", withManyMarks(23).take(2, 0), 23);
        due.is("the 24th: moved", withManyMarks(23).moved(2, 1, 3), 23);
        due.is("the 24th: grant", withManyMarks(23).grant(1, 1), 23);
        due.is("the 24th: hearing", withManyMarks(23).hearing(0, 0, 0, 0), 23);
        CityRoad x = withManyMarks(24);
        edge.refused("the 25th: line", x, y -> y.line(16, 17, 0), FULL);
        edge.refused("the 25th: ramp", x, y -> y.ramp(0, 9), FULL);
        edge.refused("the 25th: take", x, y -> y.take(2, 0), FULL);
        edge.refused("the 25th: moved", x, y -> y.moved(2, 1, 3), FULL);
        edge.refused("the 25th: grant", x, y -> y.grant(1, 1), FULL);
        edge.refused("the 25th: hearing", x, y -> y.hearing(0, 0, 0, 0), FULL);
        due.is("24 MARKS", x.count(5), 24);
        due.tells("the last one is there", x, x.told(23, 0), 5);
        edge.refused("none behind it", x, y -> y.told(24, 0), BAD);
    }

    // ---- promise 21

    private static void lineOrder() {
        CityRoad full = withManyMarks(24);
        edge.refused("BAD: a, ahead of FULL", full, y -> y.line(64, 0, 0), BAD);
        edge.refused("BAD: b, ahead of FULL", full, y -> y.line(0, -1, 0), BAD);
        edge.refused("BAD: from itself, ahead of FULL", full, y -> y.line(7, 7, 0), BAD);
        edge.refused("BAD: the ROW, ahead of FULL", full, y -> y.line(0, 7, 6), BAD);
        edge.refused("FULL ahead of NOTHING", full, y -> y.line(0, 7, 4), FULL);
        CityRoad x = plain();
        x.cell(63, WATER, 0);
        Due.rowOf(x, 1, 1, 1, 1001);
        Due.rowOf(x, 2, 1, 1, 1, 1001);
        edge.refused("BAD ahead of NOTHING", x, y -> y.line(63, 63, 4), BAD);
        edge.finds("NOTHING: the ROW, ahead of STATE", x, y -> y.line(0, 63, 4), NOTHING);
        edge.finds("SIZE ahead of UNLIKE and STATE", x, y -> y.line(0, 63, 1), SIZE);
        edge.finds("UNLIKE ahead of STATE", x, y -> y.line(0, 63, 2), UNLIKE);
        x.cell(62, 0, 99);
        x.cell(55, 0, 99);
        edge.refused("STATE (the other end), ahead of NOTHING: no way", x, y -> y.line(0, 63, 0), STATE);
        edge.refused("STATE (the first end)", x, y -> y.line(63, 0, 0), STATE);
        x.cell(63, 0, 0);
        edge.finds("NOTHING: no way", x, y -> y.line(0, 63, 0), NOTHING);
        edge.finds("NOTHING: no way back", x, y -> y.line(63, 0, 0), NOTHING);
        due.is("no MARK was made", x.count(5), 0);
    }

    private static void lineFromItself() {
        edge.refused("line(0, 0, 0)", plain(), y -> y.line(0, 0, 0), BAD);
        edge.refused("line(63, 63, 0)", plain(), y -> y.line(63, 63, 0), BAD);
        edge.refused("from itself, by a ROW that is missing", plain(), y -> y.line(5, 5, 5), BAD);
    }

    private static void lineRowSizes() {
        for (int size = 0; size <= 40; size++) {
            CityRoad x = new CityRoad();
            x.row(0, size);
            if (size == 4) due.is("a ROW of four", x.line(0, 1, 0), 0);
            else edge.finds("a ROW of " + size, x, y -> y.line(0, 1, 0), SIZE);
        }
    }

    private static void lineRowCosts() {
        for (int place = 0; place < 4; place++) {
            for (int v : new int[] {0, 1, 999, 1000}) {
                CityRoad x = plain();
                x.lay(0, place, v);
                due.is("cost " + v + " at " + place, x.line(0, 1, 0), 0);
                due.is("BARE CELLS", x.cost(0), place == 0 ? 2 * v : 2);
            }
            for (int v : new int[] {-1, 1001, LEAST, MOST, NONE}) {
                CityRoad x = plain();
                x.lay(0, place, v);
                edge.finds("cost " + v + " at " + place, x, y -> y.line(0, 1, 0), UNLIKE);
            }
        }
        for (int sort = 0; sort < 4; sort++) {
            CityRoad x = withCosts(1, 20, 300, 1000);
            x.cell(0, sort, 0);
            x.cell(1, 3 - sort, 0);
            x.line(0, 1, 0);
            int[] costs = {1, 20, 300, 1000};
            due.is("SORTS " + sort + ", " + (3 - sort), x.cost(0), costs[sort] + costs[3 - sort]);
        }
    }

    private static int steep(String rule, int height) {
        CityRoad x = plain();
        for (int c = 8; c < 16; c++) x.cell(c, WATER, 0);
        x.cell(1, 0, height);
        if (!rule.isEmpty()) Due.ruleOf(x, rule, 0);
        int l = x.line(0, 2, 0);
        return l < 0 ? l : x.cost(0);
    }

    private static void lineSlopes() {
        due.is("no slope", steep("", 0), 3);
        due.is("slope 10", steep("", 10), 203);
        due.is("slope 11", steep("", 11), FINDING);
        due.is("slope 0 by S0", steep("S0", 0), 3);
        due.is("slope 1 by S0", steep("S0", 1), FINDING);
        due.is("slope 98 by S98", steep("S98", 98), 3 + 1960);
        due.is("slope 99 by S98", steep("S98", 99), FINDING);
        due.is("slope 99 by S99", steep("S99", 99), 3 + 1980);
        due.is("slope 99 by S9999", steep("S9999", 99), 3 + 1980);
        CityRoad x = plain();
        x.cell(0, 0, 99);
        x.cell(1, 0, 89);
        x.cell(8, 0, 88);
        x.line(0, 1, 0);
        due.is("downwards, too", x.cost(0), 102);
        edge.finds("too steep downwards", x, y -> y.line(1, 63, 0), NOTHING);
        Due.ruleOf(x, "S99", 1);
        edge.finds("not yet IN FORCE", x, y -> y.line(1, 63, 0), NOTHING);
        x.later(1);
        due.is("IN FORCE", x.line(1, 63, 0), 1);
        Due.ruleOf(x, "S10", 1);
        due.is("what is made stays", x.mark(1, 1) > 0 ? 1 : 0, 1);
    }

    private static void lineWater() {
        CityRoad x = plain();
        for (int c = 3; c < 64; c += 8) x.cell(c, WATER, 0);
        edge.finds("WATER all across", x, y -> y.line(0, 7, 0), NOTHING);
        edge.refused("WATER at the first end", x, y -> y.line(3, 7, 0), STATE);
        edge.refused("WATER at the other end", x, y -> y.line(0, 3, 0), STATE);
        edge.refused("WATER at both ends", x, y -> y.line(3, 11, 0), STATE);
        x.cell(59, 3, 0);
        due.is("but one CELL", x.line(2, 4, 0), 0);
        way(x, 0, 2, 10, 18, 26, 34, 42, 50, 58, 59, 60, 52, 44, 36, 28, 20, 12, 4);
        due.is("two turns", x.cost(0), 17 + 10);
        x.cell(59, WATER, 0);
        due.is("what is made stays", x.mark(0, 1), 17);
    }

    private static void lineNoWrapAround() {
        CityRoad x = plain();
        due.is("from 7 to 8", x.line(7, 8, 0), 0);
        due.is("is far", x.cost(0), 9 + 5);
        way(x, 0, 7, 6, 5, 4, 3, 2, 1, 0, 8);
        x.cell(0, WATER, 0);
        due.is("from 8 to 7", x.line(8, 7, 0), 1);
        way(x, 1, 8, 9, 10, 11, 12, 13, 14, 15, 7);
        x.cell(6, WATER, 0);
        x.cell(15, WATER, 0);
        edge.finds("7 stands alone", x, y -> y.line(7, 8, 0), NOTHING);
        edge.finds("nor up, or down around", x, y -> y.line(63, 7, 0), NOTHING);
        x.cell(57, WATER, 0);
        x.cell(48, WATER, 0);
        edge.finds("56 stands alone", x, y -> y.line(55, 56, 0), NOTHING);
    }

    private static void lineOfTwoCells() {
        CityRoad x = withCosts(7, 0, 0, 0);
        int[] beside = {26, 28, 19, 35};
        for (int i = 0; i < 4; i++) {
            due.is("to a NEIGHBOUR", x.line(27, beside[i], 0), i);
            due.is("both ends", x.cost(i), 14);
            way(x, i, 27, beside[i]);
        }
    }

    private static void lineWorthIsCut() {
        int[][] worths = {{1, 0}, {99, 0}, {100, 1}, {199, 1}, {200, 2}, {99999, 999}, {100000, 1000}};
        for (int[] one : worths) {
            CityRoad x = plain();
            for (int c = 8; c < 16; c++) x.cell(c, WATER, 0);
            x.building(1, 1, 0, one[0]);
            x.line(0, 2, 0);
            due.is("over WORTH " + one[0], x.cost(0), 3 + one[1]);
            x.line(1, 2, 0);
            due.is("from WORTH " + one[0], x.cost(1), 2 + one[1]);
        }
        CityRoad x = plain();
        x.building(0, 0, 0, 500);
        x.building(1, 0, 0, 500);
        x.later(1);
        x.worth(0, 1000);
        x.line(0, 1, 0);
        due.is("as of TODAY", x.cost(0), 2 + 10 + 5);
        x.show(0);
        x.take(0, 0);
        x.line(0, 1, 0);
        due.is("of those that STAND", x.cost(2), 2 + 4);
        due.is("what is made stays", x.cost(0), 17);
    }

    private static void lineOfTheGreatestCost() {
        CityRoad x = withCosts(1000, 0, 0, 0);
        Due.ruleOf(x, "S99", 0);
        // a way to and fro through all the city, as long as one can be: every other row is WATER but for one CELL
        for (int c = 0; c < 64; c++) {
            boolean across = c / 8 % 2 == 1;
            boolean gap = c % 8 == (c / 8 % 4 == 1 ? 7 : 0);
            if (across && !gap) x.cell(c, WATER, 0);
            else x.cell(c, 0, (c % 8 + c / 8) % 2 == 0 ? 0 : 99);
        }
        for (int b = 0; b < 32; b++) x.building(b / 8 * 16 + b % 8, 2, 0, 100000);
        due.is("to and fro", x.line(0, 48, 0), 0);
        due.is("35 CELLS", x.mark(0, 1), 35);
        due.is("its COST", x.cost(0), 35 * 1000 + 32 * 1000 + 34 * 990 + 6 * 5);
        due.is("its last CELL", x.cellOf(0, 34), 48);
        due.is("none behind it", x.cellOf(0, 35), NONE);
        Due.rowOf(x, 1, 100, 100, 100, 100);
        due.tells("judged by the greatest weight", x, x.judge(0, 1, 1), 100 * x.cost(0));
        x.grant(10, 999);
        due.is("granted whole", x.grants(1, 0), 1);
        due.is("coins()", x.coins(), x.cost(0));
    }

    private static void lineTurnsAndTies() {
        CityRoad x = withCosts(0, 0, 0, 0);
        due.is("straight on", x.line(16, 23, 0), 0);
        due.is("costs no turn", x.cost(0), 0);
        due.is("one turn", x.line(0, 63, 0), 1);
        due.is("costs 5", x.cost(1), 5);
        way(x, 1, 0, 1, 2, 3, 4, 5, 6, 7, 15, 23, 31, 39, 47, 55, 63);
        due.is("back", x.line(63, 0, 0), 2);
        way(x, 2, 63, 55, 47, 39, 31, 23, 15, 7, 6, 5, 4, 3, 2, 1, 0);
        CityRoad y = withCosts(5, 0, 0, 0);
        y.building(27, 0, 0, 1500);
        y.line(26, 28, 0);
        due.is("over WORTH or around by four turns: alike, by one CELL less", y.cost(0), 15 + 15);
        way(y, 0, 26, 27, 28);
        y.worth(0, 2500);
        y.line(26, 28, 0);
        due.is("two CELLS and two turns more cost less", y.cost(1), 25 + 10);
        way(y, 1, 26, 18, 19, 20, 28);
        y.worth(0, 2000);
        y.line(26, 28, 0);
        due.is("of alike ones", y.cost(2), 35);
        way(y, 2, 26, 18, 19, 20, 28);
        y.cell(18, 0, 1);
        y.line(26, 28, 0);
        way(y, 3, 26, 27, 28);
    }

    // ---- promises 22, 23

    private static void rampBeside() {
        CityRoad x = plain();
        x.line(9, 10, 0);
        for (int c : new int[] {1, 2, 8, 11, 17, 18}) due.is("ramp(0, " + c + ")", x.ramp(0, c), x.count(5) - 1);
        for (int c : new int[] {0, 3, 16, 19, 25, 12, 63}) edge.refused("two STEPS off: " + c, x, y -> y.ramp(0, c), STATE);
        edge.refused("on its first CELL", x, y -> y.ramp(0, 9), STATE);
        edge.refused("on its last CELL", x, y -> y.ramp(0, 10), STATE);
        CityRoad corner = plain();
        corner.line(6, 7, 0);
        edge.refused("8 is no NEIGHBOUR of 7", corner, y -> y.ramp(0, 8), STATE);
        corner.line(8, 9, 0);
        edge.refused("7 is no NEIGHBOUR of 8", corner, y -> y.ramp(1, 7), STATE);
        edge.refused("nor 16 and 15", corner, y -> y.ramp(1, 15), STATE);
        corner.line(62, 63, 0);
        edge.refused("0 is no NEIGHBOUR of 63", corner, y -> y.ramp(2, 0), STATE);
        due.is("a RAMP in the corner", corner.ramp(2, 55), 3);
        due.is("a RAMP of it", corner.ramp(3, 63), 4);
        way(corner, 4, 63);
    }

    private static void rampOrder() {
        CityRoad full = withManyMarks(24);
        edge.refused("BAD: the MARK, ahead of FULL", full, y -> y.ramp(24, 9), BAD);
        edge.refused("BAD: the CELL, ahead of FULL", full, y -> y.ramp(0, 64), BAD);
        edge.refused("FULL ahead of UNLIKE", full, y -> y.ramp(4, 9), FULL);
        CityRoad x = withAllKinds();
        x.cell(9, WATER, 0);
        for (int m = 2; m <= 5; m++) {
            int other = m;
            edge.finds("UNLIKE ahead of STATE: MARK " + m, x, y -> y.ramp(other, 9), UNLIKE);
        }
        edge.refused("WATER", x, y -> y.ramp(0, 9), STATE);
        due.is("a RAMP of a RAMP", x.ramp(1, 16), 6);
        due.is("COST 0", x.cost(6), 0);
        due.is("not SHOWN, as its LINE is", x.shown(6), NONE);
    }

    private static void cellOfEnds() {
        CityRoad x = withAllKinds();
        int[] none = {-1, 4, 63, 64, NONE, LEAST, MOST};
        for (int i : none) due.is("cellOf(0, " + i + ")", x.cellOf(0, i), NONE);
        due.is("cellOf(0, 0)", x.cellOf(0, 0), 0);
        due.is("cellOf(0, 3)", x.cellOf(0, 3), 3);
        due.is("cellOf(1, 0)", x.cellOf(1, 0), 8);
        due.is("cellOf(1, 1)", x.cellOf(1, 1), NONE);
        due.is("cellOf(1, -1)", x.cellOf(1, -1), NONE);
        edge.finds("UNLIKE ahead of NONE", x, y -> y.cellOf(4, 99), UNLIKE);
        edge.refused("BAD ahead of NONE", x, y -> y.cellOf(6, 99), BAD);
        due.is("NONE is no FINDING", x.findings(3), 1);
    }

    // ---- promise 24

    private static void showWithinTwo() {
        CityRoad x = plain();
        int[][] places = {{9, 1}, {11, 1}, {13, 1}, {25, 1}, {29, 1}, {41, 1}, {45, 1}, {43, 1}, {8, 0}, {14, 0}, {3, 0}, {24, 0}, {30, 0}, {51, 0}};
        for (int[] one : places) x.building(one[0], 2, 0, 100);
        x.line(27, 27 + 1, 0);
        CityRoad y = plain();
        for (int[] one : places) y.building(one[0], 2, 0, 100);
        y.line(26, 27, 0);
        y.ramp(0, 28);
        due.is("of a RAMP", y.show(1), 7);
        int[] near = {0, 1, 1, 0, 1, 0, 1, 1, 0, 1, 0, 0, 1, 0};
        for (int b = 0; b < places.length; b++) due.is("near 28: " + places[b][0], y.value(b, 0), near[b] == 1 ? 80 : 100);
        due.is("of a LINE: near 27 or 28", x.show(0), 10);
        for (int b = 0; b < places.length; b++) {
            boolean told = places[b][1] == 1 || near[b] == 1;
            due.is("near 27 or 28: " + places[b][0], x.value(b, 0), told ? 80 : 100);
        }
    }

    private static void showNoWrapAround() {
        CityRoad x = plain();
        int[] far = {8, 16, 24, 0, 1, 56, 57};
        for (int c : far) x.building(c, 0, 0, 100);
        x.building(22, 0, 0, 100);
        x.line(7, 15, 0);
        due.is("on the right side", x.show(0), 1);
        CityRoad y = plain();
        int[] others = {7, 15, 23, 31, 63, 62, 55};
        for (int c : others) y.building(c, 0, 0, 100);
        y.building(18, 0, 0, 100);
        y.line(0, 8, 0);
        due.is("on the left side", y.show(0), 1);
        due.is("the one near", y.value(7, 0), 80);
    }

    /** BUILDINGS 0 and 1 are near LINE 0, no BUILDING is near LINE 1; so many tellings are left. */
    private static CityRoad withTellingsLeft(int left) {
        CityRoad x = plain();
        x.building(0, 0, 0, 1000);
        x.building(1, 0, 0, 1000);
        x.line(8, 9, 0);
        x.line(62, 63, 0);
        while (x.count(7) < 100 - left) x.worth(1, 1000);
        return x;
    }

    private static void showTellingsLeft() {
        CityRoad two = withTellingsLeft(2);
        due.is("two are left for two", two.show(0), 2);
        due.is("100 tellings", two.count(7), 100);
        due.is("told", two.value(0, 0) + two.value(1, 0), 1600);
        CityRoad one = withTellingsLeft(1);
        edge.refused("one is left for two", one, y -> y.show(0), FULL);
        due.is("nothing is told", one.value(0, 0) + one.value(1, 0), 2000);
        due.is("nor SHOWN", one.shown(0), NONE);
        due.is("none is wanted", one.show(1), 0);
        CityRoad none = withTellingsLeft(0);
        edge.refused("none is left for two", none, y -> y.show(0), FULL);
        due.is("none is wanted, none is left", none.show(1), 0);
        due.is("SHOWN", none.shown(1), 0);
    }

    private static void showOrder() {
        CityRoad x = withTellingsLeft(0);
        x.show(1);
        x.grant(1, 1);
        edge.refused("BAD", x, y -> y.show(3), BAD);
        edge.finds("UNLIKE", x, y -> y.show(2), UNLIKE);
        edge.refused("STATE: it is", x, y -> y.show(1), STATE);
        CityRoad z = withTellingsLeft(4);
        z.show(0);
        z.worth(1, 900);
        z.worth(1, 900);
        due.is("100 tellings", z.count(7), 100);
        edge.refused("STATE ahead of FULL", z, y -> y.show(0), STATE);
        z.later(5);
        edge.refused("STATE on a later day, too", z, y -> y.show(0), STATE);
        due.is("since the first day", z.shown(0), 0);
    }

    private static int fallen(String rule, int worth) {
        CityRoad x = plain();
        x.building(0, 1, 0, worth);
        if (!rule.isEmpty()) Due.ruleOf(x, rule, 0);
        x.line(0, 1, 0);
        x.show(0);
        return x.value(0, 0);
    }

    private static void showOneAtLeast() {
        int[][] usual = {{1, 1}, {2, 1}, {3, 2}, {4, 3}, {5, 4}, {100, 80}, {999, 799}, {100000, 80000}};
        for (int[] one : usual) due.is("F 20 of " + one[0], fallen("", one[0]), one[1]);
        due.is("F 0", fallen("F0", 77), 77);
        due.is("F 1 of 1", fallen("F1", 1), 1);
        due.is("F 99 of 100", fallen("F99", 100), 1);
        due.is("F 99 of 99", fallen("F99", 99), 1);
        due.is("F 99 of 200", fallen("F99", 200), 2);
        due.is("F 100 of 100000", fallen("F100", 100000), 1);
        due.is("F 101 of 100000", fallen("F101", 100000), 1);
        due.is("F 9999 of 100000", fallen("F9999", 100000), 1);
        CityRoad x = plain();
        x.building(0, 0, 0, 100);
        x.building(1, 0, 0, 100);
        x.line(0, 2, 0);
        x.line(0, 2, 0);
        x.show(0);
        x.take(0, 0);
        due.is("of those that STAND", x.show(1), 1);
        due.is("one TAKEN", x.value(0, 0), 80);
        due.is("twice told", x.value(1, 0), 64);
    }

    // ---- promise 25

    private static void takeOrder() {
        CityRoad full = withManyMarks(24);
        edge.refused("BAD: the BUILDING, ahead of FULL", full, y -> y.take(4, 0), BAD);
        edge.refused("BAD: the MARK, ahead of FULL", full, y -> y.take(2, 24), BAD);
        edge.refused("FULL ahead of UNLIKE", full, y -> y.take(2, 4), FULL);
        CityRoad x = withAllKinds();
        for (int m = 2; m <= 5; m++) {
            int other = m;
            edge.finds("UNLIKE ahead of STATE (TAKEN): MARK " + m, x, y -> y.take(0, other), UNLIKE);
        }
        edge.refused("STATE: TAKEN", x, y -> y.take(0, 0), STATE);
        edge.refused("STATE: not on its CELLS", x, y -> y.take(1, 0), STATE);
        x.line(3, 4, 0);
        edge.refused("STATE: it is not SHOWN", x, y -> y.take(2, 6), STATE);
        x.show(6);
        due.is("take(2, 6)", x.take(2, 6), 7);
        edge.refused("by another LINE, TAKEN", x, y -> y.take(2, 0), STATE);
        CityRoad ramp = withAllKinds();
        ramp.building(8, 0, 0, 100);
        edge.refused("a RAMP that is not SHOWN, though its LINE is", ramp, y -> y.take(4, 1), STATE);
        ramp.show(1);
        due.is("a RAMP that is SHOWN", ramp.take(4, 1), 6);
        edge.refused("not on the RAMP's CELL, though on its LINE's", ramp, y -> y.take(2, 1), STATE);
    }

    private static void takeWorthOfTheDayAhead() {
        CityRoad x = plain();
        x.building(0, 0, 0, 1000);
        x.line(0, 1, 0);
        x.later(4);
        x.worth(0, 2000);
        x.later(1);
        x.worth(0, 3000);
        x.show(0);
        x.worth(0, 4000);
        x.later(1);
        x.worth(0, 5000);
        due.is("take(0, 0)", x.take(0, 0), 1);
        due.is("as of the day ahead of that on which it was SHOWN", x.asked(), 2000);
        due.is("mark(1, 3)", x.mark(1, 3), 2000);
    }

    private static void takeFirstTellingOfAll() {
        CityRoad x = plain();
        x.building(0, 0, 0, 1000);
        x.worth(0, 2000);
        x.line(0, 2, 0);
        x.show(0);
        x.building(1, 0, 0, 300);
        x.later(1);
        x.building(2, 0, 0, 400);
        x.worth(2, 500);
        x.take(0, 0);
        due.is("SHOWN on day 0: its first telling", x.asked(), 1000);
        x.take(1, 0);
        due.is("built on the day of the SHOW", x.asked(), 300);
        x.take(2, 0);
        due.is("built behind it", x.asked(), 400);
    }

    private static int paid(String rule, int worth) {
        CityRoad x = plain();
        x.building(0, 0, 0, worth);
        if (!rule.isEmpty()) Due.ruleOf(x, rule, 0);
        x.line(0, 1, 0);
        x.show(0);
        x.take(0, 0);
        return x.asked();
    }

    private static void takePaysCut() {
        due.is("T 100", paid("", 99999), 99999);
        due.is("T 0", paid("T0", 99999), 0);
        due.is("T 1 of 99", paid("T1", 99), 0);
        due.is("T 1 of 100", paid("T1", 100), 1);
        due.is("T 50 of 3", paid("T50", 3), 1);
        due.is("T 199 of 99", paid("T199", 99), 197);
        due.is("T 9999 of 100000", paid("T9999", 100000), 9999000);
        CityRoad x = plain();
        x.building(0, 0, 0, 100);
        x.building(1, 0, 0, 100);
        x.line(0, 1, 0);
        x.show(0);
        Due.ruleOf(x, "T30", 2);
        x.later(1);
        x.take(0, 0);
        due.is("not yet IN FORCE", x.asked(), 100);
        x.later(1);
        x.take(1, 0);
        due.is("of TODAY", x.asked(), 30);
    }

    // ---- promise 26

    private static void movedOrder() {
        CityRoad full = withManyMarks(24);
        edge.refused("BAD: the MARK, ahead of FULL", full, y -> y.moved(24, 1, 3), BAD);
        edge.refused("BAD: the PERSON, ahead of FULL", full, y -> y.moved(2, 4, 3), BAD);
        edge.refused("BAD: the BUILDING, ahead of FULL", full, y -> y.moved(2, 1, 4), BAD);
        edge.refused("BAD: NONE is no BUILDING", full, y -> y.moved(2, 1, NONE), BAD);
        edge.refused("FULL ahead of UNLIKE", full, y -> y.moved(0, 1, 3), FULL);
        CityRoad x = withAllKinds();
        for (int m : new int[] {0, 1, 3, 4, 5}) {
            edge.finds("UNLIKE ahead of STATE: MARK " + m, x, y -> y.moved(m, 3, 2), UNLIKE);
        }
    }

    private static void movedState() {
        CityRoad x = withAllKinds();
        edge.refused("did not live there", x, y -> y.moved(2, 3, 3), STATE);
        edge.refused("lives somewhere again", x, y -> y.moved(2, 0, 3), STATE);
        edge.refused("no HOUSE", x, y -> y.moved(2, 1, 2), STATE);
        edge.refused("TAKEN", x, y -> y.moved(2, 1, 0), STATE);
        edge.refused("no ROOM left", x, y -> y.moved(2, 1, 1), STATE);
        due.is("moved(2, 1, 3)", x.moved(2, 1, 3), 6);
        due.is("M", x.asked(), 50);
        due.is("mark(6, 3)", x.mark(6, 3), 50);
        due.is("mark(6, 4)", x.mark(6, 4), 1);
        Due.ruleOf(x, "M0", 0);
        due.is("the last ROOM", x.moved(2, 2, 3), 7);
        due.is("M 0", x.asked(), 0);
        CityRoad greatest = withAllKinds();
        Due.ruleOf(greatest, "M9999", 0);
        greatest.moved(2, 2, 3);
        due.is("M 9999", greatest.asked(), 9999);
        due.is("mark(6, 3)", greatest.mark(6, 3), 9999);
        due.is("what was owed stays", greatest.mark(3, 3), 50);
    }

    private static void movedRooms() {
        CityRoad x = plain();
        x.building(0, 0, 20, 500);
        for (int p = 0; p < 20; p++) x.person(0, NONE, true, 1);
        x.building(40, 0, 20, 500);
        x.building(41, 0, 0, 500);
        x.line(0, 1, 0);
        x.show(0);
        x.take(0, 0);
        due.is("all 20 live nowhere", x.count(3), 20);
        edge.refused("no ROOMS at all", x, y -> y.moved(1, 0, 2), STATE);
        for (int p = 0; p < 20; p++) due.is("moved " + p, x.moved(1, p, 1), 2 + p);
        due.is("none lives nowhere", x.count(3), 0);
        due.is("owed in all", x.owed(), 1);
        due.is("coins()", x.coins(), 500 + 20 * 50);
    }

    // ---- promises 27, 28

    /** Whoever lived there as it was TAKEN may be led by that TAKING each time that they live nowhere. */
    private static void movedTwice() {
        CityRoad x = new CityRoad();
        for (int c = 0; c < 3; c++) x.building(c, 0, 1, 100);
        x.building(40, 0, 1, 100);
        x.person(0, NONE, false, 0);
        int l = Edge.shownLine(x, 0, 2);
        int first = x.take(0, l);
        due.is("by the first TAKING", x.moved(first, 0, 1), 2);
        edge.refused("lives somewhere again", x, y -> y.moved(first, 0, 3), STATE);
        int second = x.take(1, l);
        due.is("by the first TAKING again", x.moved(first, 0, 2), 4);
        due.tells("told(4, 2)", x, x.told(4, 2), first);
        x.take(2, l);
        due.is("by the second TAKING", x.moved(second, 0, 3), 6);
        due.tells("told(6, 2)", x, x.told(6, 2), second);
        due.tells("who(0, 0)", x, x.who(0, 0), 3);
        x.owed();
        due.is("coins(): three TAKINGS, M three times", x.coins(), 3 * 100 + 3 * 50);
    }

    private static void grantNumbers() {
        edge.span("grant(tenths, 5)", CityRoad::new, 1, 10, (x, tenths) -> x.grant(tenths, 5), 0);
        edge.span("grant(5, until)", CityRoad::new, 0, 999, (x, until) -> x.grant(5, until), 0);
        CityRoad x = new CityRoad();
        x.later(999);
        due.is("until a day long gone by", x.grant(1, 0), 0);
        due.is("its tenths", x.mark(0, 5), 1);
        x.grant(10, 999);
        due.is("its tenths", x.mark(1, 5), 10);
    }

    private static void hearingNumbers() {
        edge.span("hearing(0, 0, hour, 5)", EdgeMarksTest::withAllKinds, 0, 23, (x, hour) -> x.hearing(0, 0, hour, 5), 6);
        edge.span("hearing(0, 0, 5, day)", EdgeMarksTest::withAllKinds, 0, 999, (x, day) -> x.hearing(0, 0, 5, day), 6);
        edge.span("hearing(l, ..)", EdgeMarksTest::withAllKinds, 0, 1, (x, l) -> l > 1 && l < 6 ? BAD : x.hearing(l, 0, 0, 5), 6);
        CityRoad full = withManyMarks(24);
        edge.refused("BAD: the MARK, ahead of FULL", full, y -> y.hearing(24, 0, 0, 5), BAD);
        edge.refused("BAD: the CELL, ahead of FULL", full, y -> y.hearing(0, 64, 0, 5), BAD);
        edge.refused("BAD: the hour, ahead of FULL", full, y -> y.hearing(0, 0, 24, 5), BAD);
        edge.refused("BAD: the day, ahead of FULL", full, y -> y.hearing(0, 0, 0, 1000), BAD);
        edge.refused("FULL ahead of UNLIKE", full, y -> y.hearing(4, 0, 0, 5), FULL);
        full.later(6);
        edge.refused("FULL ahead of STATE", full, y -> y.hearing(0, 0, 0, 5), FULL);
        CityRoad x = withAllKinds();
        x.later(6);
        for (int m = 2; m <= 5; m++) {
            int other = m;
            edge.finds("UNLIKE ahead of STATE: MARK " + m, x, y -> y.hearing(other, 0, 0, 5), UNLIKE);
        }
    }

    private static void hearingDays() {
        CityRoad x = withAllKinds();
        x.later(6);
        edge.refused("the day ahead of TODAY", x, y -> y.hearing(0, 0, 0, 5), STATE);
        edge.refused("day 0", x, y -> y.hearing(0, 0, 0, 0), STATE);
        due.is("TODAY", x.hearing(0, 0, 0, 6), 6);
        due.is("the day behind", x.hearing(0, 0, 0, 7), 7);
        x.later(993);
        edge.refused("the day ahead of the last", x, y -> y.hearing(0, 0, 0, 998), STATE);
        due.is("the last day", x.hearing(0, 0, 0, 999), 8);
    }

    private static int come(int home, boolean car, int work, int cell, int hour) {
        CityRoad x = plain();
        x.building(home, 0, 1, 100);
        x.person(0, work, car, 0);
        x.line(62, 63, 0);
        x.hearing(0, cell, hour, 9);
        return x.mark(1, 6);
    }

    private static void couldComeSteps() {
        due.is("none to go", come(0, false, NONE, 0, 12), 1);
        due.is("6 STEPS along", come(0, false, NONE, 6, 12), 1);
        due.is("7 STEPS along", come(0, false, NONE, 7, 12), 0);
        due.is("6 STEPS around the corner", come(0, false, NONE, 27, 12), 1);
        due.is("7 STEPS around the corner", come(0, false, NONE, 28, 12), 0);
        due.is("from 7 to 8: 8 STEPS", come(7, false, NONE, 8, 12), 0);
        due.is("14 STEPS", come(0, false, NONE, 63, 12), 0);
        due.is("14 STEPS by CAR", come(0, true, NONE, 63, 12), 1);
        due.is("WORK, though near", come(0, false, 5, 0, 12), 0);
        CityRoad x = plain();
        x.person(NONE, NONE, true, 0);
        x.line(0, 1, 0);
        x.hearing(0, 0, 0, 9);
        due.is("no HOME", x.mark(1, 6), 0);
    }

    private static void couldComeHours() {
        for (int hour = 0; hour <= 23; hour++) {
            boolean free = hour < 9 || hour > 16;
            due.is("WORK, hour " + hour, come(0, true, 5, 0, hour), free ? 1 : 0);
            due.is("no WORK, hour " + hour, come(0, true, NONE, 0, hour), 1);
        }
        due.is("WORK on CELL 0", come(0, true, 0, 0, 9), 0);
    }

    // ---- promises 29 to 33

    private static void toldNumbers() {
        edge.span("told(0, what)", EdgeMarksTest::withAllKinds, 0, 2, (x, what) -> x.told(0, what), 1);
        edge.span("told(m, 0)", EdgeMarksTest::withAllKinds, 0, 5, (x, m) -> x.told(m, 0), 1);
        edge.bad("told(m, 0)", EdgeMarksTest::withAllKinds, (x, m) -> x.told(m, 0), NONE, 23, 24);
        CityRoad x = withAllKinds();
        int[] kinds = {1, 2, 3, 4, 5, 6}, hangs = {NONE, 0, 0, 2, NONE, 0};
        for (int m = 0; m < 6; m++) {
            due.tells("told(" + m + ", 0)", x, x.told(m, 0), kinds[m]);
            due.tells("told(" + m + ", 1)", x, x.told(m, 1), 0);
            due.tells("told(" + m + ", 2)", x, x.told(m, 2), hangs[m]);
        }
        x.later(999);
        x.grant(1, 1);
        due.tells("made on the last day", x, x.told(6, 1), 999);
        due.tells("and on the first", x, x.told(5, 1), 0);
    }

    private static void markKinds() {
        int[][] tells = {
            {4, FINDING, FINDING, FINDING, FINDING, FINDING}, {1, 8, FINDING, FINDING, FINDING, FINDING},
            {FINDING, FINDING, 500, FINDING, FINDING, FINDING}, {FINDING, FINDING, 50, 0, FINDING, FINDING},
            {FINDING, FINDING, FINDING, FINDING, 4, FINDING}, {FINDING, FINDING, FINDING, FINDING, FINDING, 1},
        };
        CityRoad x = withAllKinds();
        for (int m = 0; m < 6; m++) {
            for (int kind = 1; kind <= 6; kind++) {
                int of = m, by = kind;
                if (tells[m][kind - 1] == FINDING) edge.finds("mark(" + m + ", " + kind + ")", x, y -> y.mark(of, by), UNLIKE);
                else due.is("mark(" + m + ", " + kind + ")", x.mark(m, kind), tells[m][kind - 1]);
            }
        }
    }

    private static void markNumbers() {
        for (int m = 0; m < 6; m++) {
            int of = m;
            edge.bad("mark(" + m + ", kind)", EdgeMarksTest::withAllKinds, (x, kind) -> x.mark(of, kind), 0, -1, 7, NONE, LEAST, MOST);
        }
        edge.span("cost(l)", EdgeMarksTest::withAllKinds, 0, 1, (x, l) -> l > 1 && l < 6 ? BAD : x.cost(l), l -> l == 0 ? 14 : 0);
        int[] none = {-1, 6, 23, 24, NONE, LEAST, MOST};
        edge.bad("mark(m, 1)", EdgeMarksTest::withAllKinds, (x, m) -> x.mark(m, 1), none);
        edge.bad("cost(m)", EdgeMarksTest::withAllKinds, (x, m) -> x.cost(m), none);
        edge.bad("shown(m)", EdgeMarksTest::withAllKinds, (x, m) -> x.shown(m), none);
        edge.bad("over(m)", EdgeMarksTest::withAllKinds, (x, m) -> x.over(m), none);
        edge.bad("show(m)", EdgeMarksTest::withAllKinds, (x, m) -> x.show(m), none);
        edge.bad("cellOf(m, 0)", EdgeMarksTest::withAllKinds, (x, m) -> x.cellOf(m, 0), none);
        edge.bad("ramp(m, 9)", EdgeMarksTest::withAllKinds, (x, m) -> x.ramp(m, 9), none);
        edge.bad("take(2, m)", EdgeMarksTest::withAllKinds, (x, m) -> x.take(2, m), none);
        edge.bad("moved(m, 1, 3)", EdgeMarksTest::withAllKinds, (x, m) -> x.moved(m, 1, 3), none);
        CityRoad x = withAllKinds();
        for (int m = 2; m <= 5; m++) {
            int other = m;
            edge.finds("cost(" + m + ")", x, y -> y.cost(other), UNLIKE);
            edge.finds("shown(" + m + ")", x, y -> y.shown(other), UNLIKE);
            edge.finds("over(" + m + ")", x, y -> y.over(other), UNLIKE);
            edge.finds("show(" + m + ")", x, y -> y.show(other), UNLIKE);
            edge.finds("cellOf(" + m + ", 0)", x, y -> y.cellOf(other, 0), UNLIKE);
        }
        edge.bad("take(b, 0)", EdgeMarksTest::withAllKinds, (y, b) -> y.take(b, 0), -1, 4, 31, 32, NONE, LEAST, MOST);
        edge.bad("moved(2, p, 3)", EdgeMarksTest::withAllKinds, (y, p) -> y.moved(2, p, 3), -1, 4, 39, 40, NONE, LEAST, MOST);
        edge.bad("moved(2, 1, b)", EdgeMarksTest::withAllKinds, (y, b) -> y.moved(2, 1, b), -1, 4, 31, 32, NONE, LEAST, MOST);
    }
}
