/** The boundary cases of promises 1 to 10, and of ROWS, TEXTS, days and CELLS wherever a call is given one. */
public final class EdgeRowsTest {
    private static final int BAD = Edge.BAD, STATE = Edge.STATE, NONE = Edge.NONE;
    private static final int NOTHING = Edge.NOTHING, BEYOND = Edge.BEYOND, SIZE = Edge.SIZE;
    private static final int LEAST = Edge.LEAST, MOST = Edge.MOST;
    private static final Due due = new Due("EdgeRowsTest");
    private static final Edge edge = new Edge(due);

    public static void main(String[] args) {
        newObjectHasNone();
        newObjectToldNothing();
        rowNumbers();
        textNumbers();
        rowSizes();
        rowAnewIsEmptied();
        layPlaces();
        layTakesAnyInt();
        layOrder();
        tearOfAMissingOne();
        copyOfAll();
        copyOfNone();
        copyBeyond();
        copyUponItself();
        copyOrder();
        textSizes();
        putPlaces();
        putCutsToAByte();
        putOrder();
        faultOfTheEmptyAndTheFull();
        faultWhereTheEndComesTooEarly();
        faultOfDigits();
        faultOfSigns();
        daysGoOnTo999();
        cellNumbers();
        cellSortsAndHeights();
        cellOfWaterUnderABuilding();
        due.end();
    }

    private static CityRoad withRows(int... numbers) {
        CityRoad x = new CityRoad();
        for (int r = 0; r < 6; r++) Due.rowOf(x, r, numbers);
        return x;
    }

    private static CityRoad withLine() {
        CityRoad x = withRows(0, 0, 0, 0);
        x.line(0, 1, 0);
        return x;
    }

    private static CityRoad withTexts() {
        CityRoad x = new CityRoad();
        for (int t = 0; t < 4; t++) x.text(t, 2);
        return x;
    }

    // ---- promise 1

    private static void newObjectHasNone() {
        CityRoad x = new CityRoad();
        for (int what = 0; what <= 9; what++) due.is("new: count(" + what + ")", x.count(what), 0);
        for (int r = 0; r < 6; r++) {
            int row = r;
            edge.finds("new: ROW " + r, x, y -> y.tear(row), NOTHING);
        }
        for (int t = 0; t < 4; t++) {
            int text = t;
            edge.finds("new: TEXT " + t, x, y -> y.fault(text), NOTHING);
        }
        edge.refused("new: BUILDING 0", x, y -> y.house(0, 0), BAD);
        edge.refused("new: PERSON 0", x, y -> y.who(0, 0), BAD);
        edge.refused("new: MARK 0", x, y -> y.told(0, 0), BAD);
        due.is("new: later(0)", x.later(0), 0);
    }

    private static void newObjectToldNothing() {
        CityRoad x = new CityRoad();
        due.is("new: asked()", x.asked(), 0);
        due.is("new: set()", x.set(), 0);
        due.is("new: coins()", x.coins(), 0);
        due.is("new: finding()", x.finding(), 0);
        for (int f = 1; f <= 5; f++) due.is("new: findings(" + f + ")", x.findings(f), 0);
        due.is("new: act(0)", x.act(0), NONE);
    }

    // ---- ROWS 0 .. 5, TEXTS 0 .. 3

    private static void rowNumbers() {
        edge.span("row(r, 1)", CityRoad::new, 0, 5, (x, r) -> x.row(r, 1), 1);
        edge.span("lay(r, 0, 1)", () -> withRows(7), 0, 5, (x, r) -> x.lay(r, 0, 1), 1);
        edge.span("tear(r)", () -> withRows(7), 0, 5, (x, r) -> x.tear(r), 1);
        edge.span("copy(r, ..)", () -> withRows(7), 0, 5, (x, r) -> x.copy(r, 0, 0, 0, 1), 1);
        edge.span("copy(.., to, ..)", () -> withRows(7), 0, 5, (x, r) -> x.copy(0, 0, r, 0, 1), 1);
        edge.span("line(0, 1, r)", () -> withRows(0, 0, 0, 0), 0, 5, (x, r) -> x.line(0, 1, r), 0);
        edge.span("noise(0, r)", EdgeRowsTest::withLine, 0, 5, (x, r) -> x.noise(0, r), 0);
        edge.span("acts(r)", () -> withRows(4, NONE, NONE), 0, 5, (x, r) -> x.acts(r), 4);
        edge.span("judge(0, r, 0)", EdgeRowsTest::withLine, 0, 5, (x, r) -> x.judge(0, r, 0), 1);
        edge.span("judge(0, 0, r)", EdgeRowsTest::withLine, 0, 5, (x, r) -> x.judge(0, 0, r), 1);
        edge.span("best(r, 0)", EdgeRowsTest::withLine, 0, 5, (x, r) -> x.best(r, 0), 0);
        edge.span("best(0, r)", EdgeRowsTest::withLine, 0, 5, (x, r) -> x.best(0, r), 0);
    }

    private static void textNumbers() {
        edge.span("text(t, 1)", CityRoad::new, 0, 3, (x, t) -> x.text(t, 1), 1);
        edge.span("put(t, 0, 65)", EdgeRowsTest::withTexts, 0, 3, (x, t) -> x.put(t, 0, 65), 1032);
        edge.span("fault(t)", EdgeRowsTest::withTexts, 0, 3, (x, t) -> x.fault(t), NONE);
        edge.span("rule(t, 0)", EdgeRowsTest::withTexts, 0, 3, (x, t) -> x.rule(t, 0), 0);
    }

    // ---- promise 2

    private static void rowSizes() {
        edge.taken("row(0, n)", CityRoad::new, 0, (x, n) -> x.row(0, n), 0);
        edge.taken("row(0, n)", CityRoad::new, 40, (x, n) -> x.row(0, n), 40);
        edge.bad("row(0, n)", CityRoad::new, (x, n) -> x.row(0, n), 41, MOST);
        edge.finds("row(0, -1)", new CityRoad(), x -> x.row(0, -1), SIZE);
        edge.finds("row(0, least)", new CityRoad(), x -> x.row(0, LEAST), SIZE);
        edge.refused("row(6, -1): BAD ahead of SIZE", new CityRoad(), x -> x.row(6, -1), BAD);
        CityRoad x = withRows(5, 6);
        edge.refused("row(0, 41) of one that is there", x, y -> y.row(0, 41), BAD);
        edge.finds("row(0, -1) of one that is there", x, y -> y.row(0, -1), SIZE);
        due.tells("its places stay", x, x.lay(0, 1, 6), 6);
    }

    private static void rowAnewIsEmptied() {
        CityRoad x = new CityRoad();
        x.row(2, 40);
        for (int i = 0; i < 40; i++) due.tells("place " + i + " is 0 at first", x, x.lay(2, i, i + 1), 0);
        x.row(2, 1);
        x.row(2, 40);
        for (int i = 0; i < 40; i++) due.tells("place " + i + " is 0 anew", x, x.lay(2, i, i + 1), 0);
        x.tear(2);
        x.row(2, 40);
        due.tells("and behind tear()", x, x.lay(2, 39, 0), 0);
        due.is("one ROW is there", x.count(8), 1);
    }

    // ---- promise 3

    private static void layPlaces() {
        CityRoad x = withRows(1, 2, 3);
        due.tells("lay(0, 0, 4)", x, x.lay(0, 0, 4), 1);
        due.tells("lay(0, 2, 4)", x, x.lay(0, 2, 4), 3);
        for (int i : new int[] {-1, 3, 39, 40, LEAST, MOST}) edge.finds("lay(0, " + i + ", 4)", x, y -> y.lay(0, i, 4), BEYOND);
        x.row(1, 0);
        edge.finds("lay(1, 0, 4) of none", x, y -> y.lay(1, 0, 4), BEYOND);
        x.row(1, 40);
        due.tells("lay(1, 39, 4)", x, x.lay(1, 39, 4), 0);
        edge.finds("lay(1, 40, 4)", x, y -> y.lay(1, 40, 4), BEYOND);
    }

    private static void layTakesAnyInt() {
        CityRoad x = withRows(0);
        int was = 0;
        for (int v : new int[] {MOST, LEAST, -1, NONE, 0}) {
            due.tells("lay(0, 0, " + v + ")", x, x.lay(0, 0, v), was);
            was = v;
        }
    }

    private static void layOrder() {
        CityRoad x = new CityRoad();
        edge.refused("BAD ahead of NOTHING", x, y -> y.lay(6, 0, 1), BAD);
        edge.finds("NOTHING ahead of BEYOND", x, y -> y.lay(5, -1, 1), NOTHING);
        x.row(5, 1);
        edge.finds("BEYOND", x, y -> y.lay(5, -1, 1), BEYOND);
    }

    // ---- promise 4

    private static void tearOfAMissingOne() {
        CityRoad x = withRows();
        due.is("an empty ROW is there", x.tear(3), 1);
        edge.finds("and is missing then", x, y -> y.tear(3), NOTHING);
        due.is("five are there", x.count(8), 5);
        edge.refused("tear(-1)", x, y -> y.tear(-1), BAD);
        edge.refused("tear(6)", x, y -> y.tear(6), BAD);
    }

    // ---- promise 5

    private static CityRoad forCopies() {
        CityRoad x = new CityRoad();
        Due.rowOf(x, 0, 1, 2, 3, 4);
        Due.rowOf(x, 1, 5, 6, 7);
        x.row(2, 0);
        x.row(3, 40);
        return x;
    }

    private static void copyOfAll() {
        CityRoad x = forCopies();
        due.is("all of a ROW", x.copy(1, 0, 0, 1, 3), 1);
        due.tells("from one on", x, x.lay(0, 0, 9), 1);
        for (int i = 0; i < 3; i++) due.tells("place " + (1 + i), x, x.lay(0, 1 + i, 9), 5 + i);
        due.is("40 of 40", x.copy(3, 0, 3, 0, 40), 1);
        edge.finds("41 of 40", x, y -> y.copy(3, 0, 3, 0, 41), BEYOND);
        due.is("the last one", x.copy(1, 2, 3, 39, 1), 1);
        due.tells("to the last one", x, x.lay(3, 39, 0), 7);
    }

    private static void copyOfNone() {
        CityRoad x = forCopies();
        long digest = x.digest();
        due.is("0 from the first, to the first", x.copy(0, 0, 1, 0, 0), 1);
        due.is("0 at both ends", x.copy(0, 4, 1, 3, 0), 1);
        due.is("0 of an empty ROW", x.copy(2, 0, 2, 0, 0), 1);
        due.is("0 at the end of 40", x.copy(3, 40, 3, 40, 0), 1);
        due.is("nothing has changed", x.digest(), digest);
        edge.finds("i below 0", x, y -> y.copy(0, -1, 1, 0, 0), BEYOND);
        edge.finds("i above the size", x, y -> y.copy(0, 5, 1, 0, 0), BEYOND);
        edge.finds("j below 0", x, y -> y.copy(0, 0, 1, -1, 0), BEYOND);
        edge.finds("j above the size", x, y -> y.copy(0, 0, 1, 4, 0), BEYOND);
        edge.finds("i above an empty ROW", x, y -> y.copy(2, 1, 1, 0, 0), BEYOND);
        edge.finds("i the least", x, y -> y.copy(0, LEAST, 1, 0, 0), BEYOND);
        edge.finds("j the most", x, y -> y.copy(0, 0, 1, MOST, 0), BEYOND);
    }

    private static void copyBeyond() {
        CityRoad x = forCopies();
        due.is("just to the end", x.copy(0, 1, 1, 0, 3), 1);
        edge.finds("one more than there is", x, y -> y.copy(0, 2, 1, 0, 3), BEYOND);
        edge.finds("one more than there is room for", x, y -> y.copy(0, 0, 1, 1, 3), BEYOND);
        edge.finds("one of none", x, y -> y.copy(2, 0, 1, 0, 1), BEYOND);
        edge.finds("one to none", x, y -> y.copy(0, 0, 2, 0, 1), BEYOND);
        edge.finds("i below 0, to no more than the end", x, y -> y.copy(0, -1, 1, 0, 2), BEYOND);
        edge.finds("j below 0", x, y -> y.copy(0, 0, 1, -1, 2), BEYOND);
        edge.finds("the most of all", x, y -> y.copy(0, 1, 1, 1, MOST), BEYOND);
        edge.finds("i and n around the end of the numbers", x, y -> y.copy(0, MOST, 1, 0, MOST), BEYOND);
        edge.finds("j around the end of the numbers", x, y -> y.copy(0, 0, 1, MOST, 1), BEYOND);
        edge.finds("i the least", x, y -> y.copy(0, LEAST, 1, 0, MOST), BEYOND);
    }

    private static void copyUponItself() {
        CityRoad x = forCopies();
        due.is("up by one", x.copy(0, 0, 0, 1, 3), 1);
        int[] up = {1, 1, 2, 3};
        for (int i = 0; i < 4; i++) due.tells("as if taken ahead", x, x.lay(0, i, i + 1), up[i]);
        due.is("down by one", x.copy(0, 1, 0, 0, 3), 1);
        int[] down = {2, 3, 4, 4};
        for (int i = 0; i < 4; i++) due.tells("as if taken ahead", x, x.lay(0, i, i + 1), down[i]);
    }

    private static void copyOrder() {
        CityRoad x = forCopies();
        edge.refused("BAD (r) ahead of SIZE", x, y -> y.copy(6, 0, 0, 0, -1), BAD);
        edge.refused("BAD (to) ahead of SIZE", x, y -> y.copy(0, 0, 6, 0, -1), BAD);
        edge.refused("BAD (r) below 0", x, y -> y.copy(-1, 0, 5, 0, -1), BAD);
        edge.refused("BAD (to) ahead of NOTHING", x, y -> y.copy(5, 0, -1, 0, 0), BAD);
        edge.finds("SIZE ahead of NOTHING", x, y -> y.copy(5, 0, 5, 0, -1), SIZE);
        edge.finds("SIZE: the least", x, y -> y.copy(0, 0, 1, 0, LEAST), SIZE);
        edge.finds("SIZE ahead of BEYOND", x, y -> y.copy(0, 9, 1, 9, -1), SIZE);
        edge.finds("NOTHING: the first, ahead of BEYOND", x, y -> y.copy(5, 9, 0, 9, 1), NOTHING);
        edge.finds("NOTHING: the other, ahead of BEYOND", x, y -> y.copy(0, 9, 5, 9, 1), NOTHING);
        edge.finds("NOTHING, with n 0", x, y -> y.copy(5, 0, 5, 0, 0), NOTHING);
    }

    // ---- promises 6, 7

    private static void textSizes() {
        edge.taken("text(0, n)", CityRoad::new, 0, (x, n) -> x.text(0, n), 0);
        edge.taken("text(0, n)", CityRoad::new, 40, (x, n) -> x.text(0, n), 40);
        edge.bad("text(0, n)", CityRoad::new, (x, n) -> x.text(0, n), 41, MOST);
        edge.finds("text(0, -1)", new CityRoad(), x -> x.text(0, -1), SIZE);
        edge.finds("text(0, least)", new CityRoad(), x -> x.text(0, LEAST), SIZE);
        edge.refused("text(4, -1): BAD ahead of SIZE", new CityRoad(), x -> x.text(4, -1), BAD);
        CityRoad x = new CityRoad();
        x.text(3, 40);
        for (int i = 0; i < 40; i++) due.is("a blank at " + i, x.put(3, i, 65), 1032);
        x.text(3, 1);
        x.text(3, 40);
        for (int i = 0; i < 40; i++) due.is("a blank anew at " + i, x.put(3, i, 65), 1032);
        edge.refused("text(3, 41) of one that is there", x, y -> y.text(3, 41), BAD);
        edge.finds("text(3, -1) of one that is there", x, y -> y.text(3, -1), SIZE);
        due.is("its bytes stay", x.put(3, 39, 66), 1065);
        due.is("one TEXT is there", x.count(9), 1);
    }

    private static void putPlaces() {
        CityRoad x = new CityRoad();
        x.text(1, 3);
        due.is("put(1, 0, 1)", x.put(1, 0, 1), 1032);
        due.is("put(1, 2, 3)", x.put(1, 2, 3), 1032);
        for (int i : new int[] {-1, 3, 39, 40, LEAST, MOST}) edge.finds("put(1, " + i + ", 1)", x, y -> y.put(1, i, 1), BEYOND);
        x.text(2, 0);
        edge.finds("put(2, 0, 1) of none", x, y -> y.put(2, 0, 1), BEYOND);
        x.text(2, 40);
        due.is("put(2, 39, 1)", x.put(2, 39, 1), 1032);
        edge.finds("put(2, 40, 1)", x, y -> y.put(2, 40, 1), BEYOND);
    }

    private static void putCutsToAByte() {
        CityRoad x = new CityRoad();
        x.text(0, 1);
        int[][] cut = {{127, 127}, {128, -128}, {255, -1}, {256, 0}, {-128, -128}, {-129, 127}, {-1, -1}, {MOST, -1}, {LEAST, 0}, {0, 0}};
        int was = 32;
        for (int[] one : cut) {
            due.is("put(0, 0, " + one[0] + ")", x.put(0, 0, one[0]), was + 1000);
            was = one[1];
        }
        due.is("asked() is not what put() tells by", x.asked(), 0);
    }

    private static void putOrder() {
        CityRoad x = new CityRoad();
        edge.refused("BAD ahead of NOTHING", x, y -> y.put(4, 0, 1), BAD);
        edge.refused("BAD below 0", x, y -> y.put(-1, 0, 1), BAD);
        edge.finds("NOTHING ahead of BEYOND", x, y -> y.put(3, -1, 1), NOTHING);
        edge.refused("fault: BAD", x, y -> y.fault(4), BAD);
        edge.finds("fault: NOTHING", x, y -> y.fault(3), NOTHING);
    }

    // ---- promise 8

    private static void fault(String signs, int want) {
        CityRoad x = new CityRoad();
        Due.textOf(x, 1, signs);
        long digest = x.digest();
        due.is("fault of [" + signs + "]", x.fault(1), want);
        due.is("fault changes nothing", x.digest(), digest);
        if (want == NONE) due.is("rule of [" + signs + "]", x.rule(1, 0), 0);
        else edge.refused("rule of [" + signs + "]", x, y -> y.rule(1, 0), STATE);
    }

    private static void faultOfTheEmptyAndTheFull() {
        fault("", NONE);
        fault(" ", NONE);
        fault(" ".repeat(40), NONE);
        fault("S1".repeat(20), NONE);
        fault("H1234".repeat(8), NONE);
        fault("H1234".repeat(7) + "H1  2", 39);
        fault("S1".repeat(19) + " S", 40);
        fault(" ".repeat(39) + "S", 40);
        fault(" ".repeat(39) + "1", 39);
    }

    private static void faultWhereTheEndComesTooEarly() {
        fault("S", 1);
        fault("S1F", 3);
        fault("   K", 4);
        fault("S1 F2 T", 7);
    }

    private static void faultOfDigits() {
        fault("S1", NONE);
        fault("S1234", NONE);
        fault("S0000", NONE);
        fault("S12345", 5);
        fault("S1234 5", 6);
        fault("S1234F5", NONE);
        fault("S 1", 1);
        fault("S1 2", 3);
        fault("S1:", 2);
        fault("S/1", 1);
        fault("S-1", 1);
        fault("S+1", 1);
    }

    private static void faultOfSigns() {
        for (int sign = -128; sign < 128; sign++) {
            CityRoad x = new CityRoad();
            x.text(0, 2);
            x.put(0, 0, sign);
            x.put(0, 1, '7');
            boolean letter = sign > 0 && "SFTMKNPH".indexOf(sign) >= 0;
            due.is("fault of the letter " + sign, x.fault(0), letter ? NONE : sign == 32 ? 1 : 0);
            x.put(0, 0, 'S');
            x.put(0, 1, sign);
            due.is("fault of the digit " + sign, x.fault(0), sign >= '0' && sign <= '9' ? NONE : 1);
        }
    }

    // ---- promise 9

    private static void daysGoOnTo999() {
        CityRoad x = new CityRoad();
        due.is("later(0)", x.later(0), 0);
        edge.refused("later(-1)", x, y -> y.later(-1), BAD);
        edge.refused("later(least)", x, y -> y.later(LEAST), BAD);
        edge.refused("later(1000)", x, y -> y.later(1000), BAD);
        due.is("later(1)", x.later(1), 1);
        edge.refused("later(999) from 1", x, y -> y.later(999), BAD);
        edge.refused("later(most) from 1", x, y -> y.later(MOST), BAD);
        edge.refused("back to 0", x, y -> y.later(-1), BAD);
        due.is("later(998)", x.later(998), 999);
        edge.refused("beyond 999", x, y -> y.later(1), BAD);
        due.is("later(0) at the last", x.later(0), 999);
        due.is("at once", new CityRoad().later(999), 999);
    }

    // ---- promise 10, and CELLS 0 .. 63

    private static void cellNumbers() {
        edge.span("cell(c, 1, 1)", CityRoad::new, 0, 63, (x, c) -> x.cell(c, 1, 1), 1);
        edge.span("building(c, ..)", CityRoad::new, 0, 63, (x, c) -> x.building(c, 0, 0, 1), 0);
        edge.span("line(a, 30, 0)", () -> withRows(0, 0, 0, 0), 0, 63, (x, c) -> x.line(c, 30, 0), 0);
        edge.span("line(30, b, 0)", () -> withRows(0, 0, 0, 0), 0, 63, (x, c) -> x.line(30, c, 0), 0);
        edge.span("stop(a, 30)", CityRoad::new, 0, 63, (x, c) -> x.stop(c, 30), NONE);
        edge.span("stop(30, b)", CityRoad::new, 0, 63, (x, c) -> x.stop(30, c), NONE);
        edge.span("hearing(0, c, ..)", EdgeRowsTest::withLine, 0, 63, (x, c) -> x.hearing(0, c, 0, 0), 1);
        edge.span("person(.., work, ..)", CityRoad::new, 0, 63, (x, c) -> x.person(NONE, c, true, 0), 0);
        edge.taken("ramp(0, c)", EdgeRowsTest::withLine, 8, (x, c) -> x.ramp(0, c), 1);
        edge.bad("ramp(0, c)", EdgeRowsTest::withLine, (x, c) -> x.ramp(0, c), -1, 64, NONE, LEAST, MOST);
        CityRoad far = withRows(0, 0, 0, 0);
        far.line(62, 55, 0);
        due.is("ramp(0, 54), to the last CELL's NEIGHBOUR", far.ramp(0, far.cellOf(0, 1) == 54 ? 63 : 54), 1);
    }

    private static void cellSortsAndHeights() {
        edge.span("cell(9, sort, 1)", CityRoad::new, 0, 4, (x, sort) -> x.cell(9, sort, 1), 1);
        edge.span("cell(9, 1, height)", CityRoad::new, 0, 99, (x, height) -> x.cell(9, 1, height), 1);
        CityRoad x = new CityRoad();
        x.cell(9, 3, 99);
        edge.refused("a SORT that is none leaves the HEIGHT", x, y -> y.cell(9, 5, 1), BAD);
        edge.refused("a HEIGHT that is none leaves the SORT", x, y -> y.cell(9, 0, 100), BAD);
        due.is("a CELL can become again what it was", x.cell(9, 0, 0), 1);
        due.is("as at first", x.digest(), new CityRoad().digest());
    }

    private static void cellOfWaterUnderABuilding() {
        CityRoad x = new CityRoad();
        due.is("WATER", x.cell(8, 4, 3), 1);
        edge.refused("no BUILDING on WATER", x, y -> y.building(8, 0, 0, 1), STATE);
        due.is("BARE again", x.cell(8, 0, 3), 1);
        due.is("a BUILDING", x.building(8, 0, 0, 1), 0);
        edge.refused("no WATER where it STANDS", x, y -> y.cell(8, 4, 3), STATE);
        edge.refused("BAD ahead of STATE", x, y -> y.cell(8, 4, 100), BAD);
        due.is("any other SORT", x.cell(8, 3, 3), 1);
        due.is("WATER beside it", x.cell(9, 4, 3), 1);
        int l = Edge.shownLine(x, 8, 0);
        x.take(0, l);
        due.is("WATER where one was TAKEN", x.cell(8, 4, 3), 1);
    }
}
