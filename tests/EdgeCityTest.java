/** The boundary cases of promises 11 to 20: buildings, worths, persons, rules. */
public final class EdgeCityTest {
    private static final int BAD = Edge.BAD, FULL = Edge.FULL, STATE = Edge.STATE, NONE = Edge.NONE;
    private static final int NOTHING = Edge.NOTHING, NOUGHT = Edge.NOUGHT;
    private static final int LEAST = Edge.LEAST, MOST = Edge.MOST;
    private static final int[] DEFAULTS = {10, 20, 100, 50, 2, 60, 3, 7};
    private static final String LETTERS = "SFTMKNPH";
    private static final Due due = new Due("EdgeCityTest");
    private static final Edge edge = new Edge(due);

    public static void main(String[] args) {
        buildingNumbers();
        buildings32Ever();
        buildingOfNoTellingLeft();
        buildingState();
        worthNumbers();
        worthTellings100();
        worthOfOneTaken();
        valueDays();
        valueOfManyTellingsOnADay();
        houseNumbers();
        houseTells();
        personNumbers();
        persons40Ever();
        personRooms();
        personState();
        whoNumbers();
        meanOfNone();
        meanIsCut();
        ruleNumbers();
        rules16Ever();
        ruleOrder();
        ruleOfNoItems();
        numbersOfOneToFourDigits();
        inForceOfNone();
        inForceFromItsDay();
        inForceAsKnown();
        inForceTheLatest();
        inForceTheLastItem();
        forceNumbers();
        due.end();
    }

    private static CityRoad withHouse() {
        CityRoad x = new CityRoad();
        x.building(9, 0, 2, 500);
        return x;
    }

    private static CityRoad withPerson() {
        CityRoad x = withHouse();
        x.person(0, 7, true, 3);
        return x;
    }

    /** BUILDING 0 (a HOUSE) is TAKEN, BUILDING 1 is a SHOP, BUILDING 2 a HOUSE with no ROOMS, 3 one with one. */
    private static CityRoad withOneTaken() {
        CityRoad x = withHouse();
        x.building(40, 1, 5, 500);
        x.building(41, 0, 0, 500);
        x.building(42, 0, 1, 500);
        x.take(0, Edge.shownLine(x, 9, 10));
        return x;
    }

    // ---- promise 11

    private static void buildingNumbers() {
        edge.span("building(0, use, ..)", CityRoad::new, 0, 2, (x, use) -> x.building(0, use, 0, 1), 0);
        edge.span("building(.., rooms, ..)", CityRoad::new, 0, 20, (x, rooms) -> x.building(0, 0, rooms, 1), 0);
        edge.span("building(.., worth)", CityRoad::new, 1, 100000, (x, worth) -> x.building(0, 0, 0, worth), 0);
    }

    private static void buildings32Ever() {
        CityRoad x = new CityRoad();
        for (int b = 0; b < 32; b++) due.is("building " + b, x.building(b, b % 3, 0, 1), b);
        edge.refused("the 33rd", x, y -> y.building(40, 0, 0, 1), FULL);
        edge.refused("FULL ahead of STATE", x, y -> y.building(0, 0, 0, 1), FULL);
        edge.refused("BAD ahead of FULL", x, y -> y.building(40, 3, 0, 1), BAD);
        x.take(0, Edge.shownLine(x, 0, 8));
        due.is("31 STAND", x.count(1), 31);
        edge.refused("32 ever, TAKEN ones too", x, y -> y.building(40, 0, 0, 1), FULL);
    }

    private static void buildingOfNoTellingLeft() {
        CityRoad x = withHouse();
        for (int i = 1; i < 99; i++) x.worth(0, i);
        due.is("99 tellings", x.count(7), 99);
        due.is("a BUILDING with the 100th", x.building(20, 0, 0, 1), 1);
        due.is("100 tellings", x.count(7), 100);
        edge.refused("one more", x, y -> y.building(21, 0, 0, 1), FULL);
        edge.refused("FULL ahead of STATE", x, y -> y.building(20, 0, 0, 1), FULL);
        edge.refused("BAD ahead of FULL", x, y -> y.building(21, 0, 21, 1), BAD);
    }

    private static void buildingState() {
        CityRoad x = withOneTaken();
        x.cell(50, 4, 0);
        edge.refused("WATER", x, y -> y.building(50, 0, 0, 1), STATE);
        edge.refused("another one STANDS there", x, y -> y.building(40, 0, 0, 1), STATE);
        due.is("where one was TAKEN", x.building(9, 2, 0, 1), 4);
        edge.refused("and that one STANDS", x, y -> y.building(9, 2, 0, 1), STATE);
    }

    // ---- promises 12, 13

    private static void worthNumbers() {
        edge.span("worth(0, v)", EdgeCityTest::withHouse, 1, 100000, (x, v) -> x.worth(0, v), 500);
        edge.span("worth(b, 1)", EdgeCityTest::withHouse, 0, 0, (x, b) -> x.worth(b, 1), 500);
        edge.bad("worth(b, 1)", EdgeCityTest::withHouse, (x, b) -> x.worth(b, 1), NONE, 32);
        edge.bad("worth(0, 1) of none", CityRoad::new, (x, b) -> x.worth(b, 1), 0);
    }

    private static void worthTellings100() {
        CityRoad x = withOneTaken();
        int told = x.count(7);
        for (int i = told; i < 100; i++) due.is("telling " + (i + 1), x.worth(1, i + 1), i == told ? 500 : i);
        due.is("100 tellings", x.count(7), 100);
        edge.refused("the 101st", x, y -> y.worth(1, 3), FULL);
        edge.refused("STATE ahead of FULL", x, y -> y.worth(0, 3), STATE);
        edge.refused("BAD ahead of STATE", x, y -> y.worth(0, 0), BAD);
        due.is("its WORTH stays", x.value(1, 0), 100);
    }

    private static void worthOfOneTaken() {
        CityRoad x = withOneTaken();
        edge.refused("TAKEN", x, y -> y.worth(0, 1), STATE);
        due.is("its WORTH stays", x.value(0, 999), 400);
    }

    private static void valueDays() {
        edge.span("value(0, day)", EdgeCityTest::withHouse, 0, 999, (x, day) -> x.value(0, day), 500);
        edge.span("value(b, 0)", EdgeCityTest::withHouse, 0, 0, (x, b) -> x.value(b, 0), 500);
        edge.bad("value(0, 0) of none", CityRoad::new, (x, b) -> x.value(b, 0), 0);
        CityRoad x = new CityRoad();
        x.later(10);
        x.building(0, 0, 0, 70);
        x.later(10);
        x.worth(0, 80);
        due.is("ahead of its first day", x.value(0, 9), NONE);
        due.is("on its first day", x.value(0, 10), 70);
        due.is("the day ahead of the next telling", x.value(0, 19), 70);
        due.is("on that day", x.value(0, 20), 80);
        due.is("on a day to come", x.value(0, 999), 80);
        edge.refused("beyond all days", x, y -> y.value(0, 1000), BAD);
        CityRoad last = new CityRoad();
        last.later(999);
        last.building(0, 0, 0, 70);
        due.is("told on the last day", last.value(0, 999), 70);
        due.is("ahead of it", last.value(0, 998), NONE);
    }

    private static void valueOfManyTellingsOnADay() {
        CityRoad x = withHouse();
        x.later(1);
        for (int v = 1; v <= 5; v++) x.worth(0, 10 * v);
        due.is("what was told last", x.value(0, 1), 50);
        due.is("by then", x.value(0, 0), 500);
        due.is("all are tellings", x.count(7), 6);
    }

    // ---- promise 14

    private static void houseNumbers() {
        edge.span("house(0, what)", EdgeCityTest::withHouse, 0, 5, (x, what) -> x.house(0, what), 1);
        edge.span("house(b, 0)", EdgeCityTest::withHouse, 0, 0, (x, b) -> x.house(b, 0), 1);
        edge.bad("house(b, 0)", EdgeCityTest::withHouse, (x, b) -> x.house(b, 0), NONE, 31, 32);
    }

    private static void houseTells() {
        CityRoad x = withPerson();
        int[] first = {9, 0, 2, 1, 0, NONE};
        for (int what = 0; what <= 5; what++) due.tells("house(0, " + what + ")", x, x.house(0, what), first[what]);
        x.person(NONE, NONE, false, 0);
        x.buy(0, 1);
        due.tells("who bought it", x, x.house(0, 5), 1);
        x.buy(0, 0);
        due.tells("who bought it last", x, x.house(0, 5), 0);
        x.take(0, Edge.shownLine(x, 9, 10));
        int[] then = {9, 0, 2, 0, 1, 0};
        for (int what = 0; what <= 5; what++) due.tells("house(0, " + what + ") TAKEN", x, x.house(0, what), then[what]);
    }

    // ---- promises 15, 16

    private static void personNumbers() {
        edge.span("person(.., kin)", CityRoad::new, 0, 9, (x, kin) -> x.person(NONE, NONE, true, kin), 0);
        edge.span("person(home, ..)", EdgeCityTest::withHouse, 0, 0, (x, home) -> x.person(home, 0, true, 0), 0);
        edge.taken("person(home, ..)", EdgeCityTest::withHouse, NONE, (x, home) -> x.person(home, 0, true, 0), 0);
        edge.bad("person(home, ..)", EdgeCityTest::withHouse, (x, home) -> x.person(home, 0, true, 0), -8, -10, -2);
        edge.taken("person(.., work, ..)", CityRoad::new, NONE, (x, work) -> x.person(NONE, work, true, 0), 0);
        edge.bad("person(.., work, ..)", CityRoad::new, (x, work) -> x.person(NONE, work, true, 0), -8, -10);
        due.is("WORK on WATER", work(4), 0);
    }

    private static int work(int sort) {
        CityRoad x = new CityRoad();
        x.cell(5, sort, 0);
        return x.person(NONE, 5, true, 0);
    }

    private static void persons40Ever() {
        CityRoad x = withOneTaken();
        for (int p = 0; p < 40; p++) due.is("person " + p, x.person(NONE, NONE, true, 0), p);
        edge.refused("the 41st", x, y -> y.person(NONE, NONE, true, 0), FULL);
        edge.refused("FULL ahead of STATE", x, y -> y.person(0, NONE, true, 0), FULL);
        edge.refused("BAD ahead of FULL", x, y -> y.person(NONE, NONE, true, 10), BAD);
        due.is("40 PERSONS", x.count(2), 40);
        due.is("all of them nowhere", x.count(3), 40);
    }

    private static void personRooms() {
        CityRoad x = new CityRoad();
        x.building(0, 0, 20, 1);
        x.building(1, 0, 1, 1);
        x.building(2, 0, 0, 1);
        for (int p = 0; p < 20; p++) due.is("ROOM " + p, x.person(0, NONE, true, 0), p);
        edge.refused("no ROOM left of 20", x, y -> y.person(0, NONE, true, 0), STATE);
        due.is("the only ROOM", x.person(1, NONE, true, 0), 20);
        edge.refused("no ROOM left of one", x, y -> y.person(1, NONE, true, 0), STATE);
        edge.refused("no ROOMS at all", x, y -> y.person(2, NONE, true, 0), STATE);
        due.tells("20 live there", x, x.house(0, 3), 20);
    }

    private static void personState() {
        CityRoad x = withOneTaken();
        edge.refused("TAKEN", x, y -> y.person(0, NONE, true, 0), STATE);
        edge.refused("no HOUSE, with ROOMS", x, y -> y.person(1, NONE, true, 0), STATE);
        edge.refused("no ROOM", x, y -> y.person(2, NONE, true, 0), STATE);
        edge.refused("BAD ahead of STATE", x, y -> y.person(0, 64, true, 0), BAD);
        x.building(9, 0, 1, 1);
        due.is("the one on the same CELL", x.person(4, NONE, true, 0), 0);
    }

    private static void whoNumbers() {
        edge.span("who(0, what)", EdgeCityTest::withPerson, 0, 3, (x, what) -> x.who(0, what), 1);
        edge.span("who(p, 0)", EdgeCityTest::withPerson, 0, 0, (x, p) -> x.who(p, 0), 1);
        edge.bad("who(p, 0)", EdgeCityTest::withPerson, (x, p) -> x.who(p, 0), NONE, 39, 40);
        CityRoad x = withPerson();
        x.person(NONE, NONE, false, 0);
        int[][] want = {{0, 7, 1, 3}, {NONE, NONE, 0, 0}};
        for (int what = 0; what <= 3; what++) {
            due.tells("who(0, " + what + ")", x, x.who(0, what), want[0][what]);
            due.tells("who(1, " + what + ")", x, x.who(1, what), want[1][what]);
        }
    }

    // ---- promise 17

    private static void meanOfNone() {
        for (int use = 0; use <= 2; use++) {
            int other = use;
            edge.finds("mean(" + use + ") of none", new CityRoad(), y -> y.mean(other), NOUGHT);
        }
        edge.bad("mean(use)", CityRoad::new, (x, use) -> x.mean(use), -1, 3, NONE, LEAST, MOST);
        CityRoad x = withHouse();
        due.tells("of one", x, x.mean(0), 500);
        edge.finds("of another USE", x, y -> y.mean(1), NOUGHT);
        x.take(0, Edge.shownLine(x, 9, 10));
        edge.finds("of one that is TAKEN", x, y -> y.mean(0), NOUGHT);
    }

    private static void meanIsCut() {
        CityRoad x = new CityRoad();
        x.building(0, 2, 0, 1);
        x.building(1, 2, 0, 2);
        due.tells("of 1 and 2", x, x.mean(2), 1);
        x.worth(0, 2);
        due.tells("of 2 and 2", x, x.mean(2), 2);
        CityRoad full = new CityRoad();
        for (int b = 0; b < 32; b++) full.building(b, 1, 0, 100000);
        due.tells("of 32 of the greatest WORTH", full, full.mean(1), 100000);
    }

    // ---- promise 18

    private static CityRoad withText() {
        CityRoad x = new CityRoad();
        Due.textOf(x, 0, "S5");
        return x;
    }

    private static void ruleNumbers() {
        edge.span("rule(0, from)", EdgeCityTest::withText, 0, 999, (x, from) -> x.rule(0, from), 0);
        CityRoad x = withText();
        x.later(999);
        due.is("from a day long gone by", x.rule(0, 0), 0);
    }

    private static void rules16Ever() {
        CityRoad x = withText();
        for (int r = 0; r < 16; r++) due.is("rule " + r, x.rule(0, 999), r);
        edge.refused("the 17th", x, y -> y.rule(0, 0), FULL);
        edge.refused("FULL ahead of NOTHING", x, y -> y.rule(1, 0), FULL);
        edge.refused("BAD ahead of FULL", x, y -> y.rule(0, 1000), BAD);
        x.put(0, 1, 'S');
        edge.refused("FULL ahead of STATE", x, y -> y.rule(0, 0), FULL);
        due.is("16 RULES", x.count(4), 16);
        due.is("none of them yet IN FORCE", x.force(0, 998, 0), 10);
        due.is("all of them then: the last", x.why(0, 999, 0), 15);
    }

    private static void ruleOrder() {
        CityRoad x = withText();
        Due.textOf(x, 2, "S");
        edge.refused("BAD: the TEXT", x, y -> y.rule(4, 0), BAD);
        edge.refused("BAD: the day, ahead of NOTHING", x, y -> y.rule(1, -1), BAD);
        edge.refused("BAD: the day, ahead of STATE", x, y -> y.rule(2, 1000), BAD);
        edge.finds("NOTHING: a TEXT that is missing", x, y -> y.rule(1, 0), NOTHING);
        edge.refused("STATE: a FAULT", x, y -> y.rule(2, 0), STATE);
        due.is("none was told", x.count(4), 0);
    }

    private static void ruleOfNoItems() {
        for (int size : new int[] {0, 1, 40}) {
            CityRoad x = new CityRoad();
            x.text(3, size);
            due.is("rule of " + size + " blanks", x.rule(3, 0), 0);
            for (int what = 0; what < 8; what++) due.is("by none", x.why(what, 0, 0), NONE);
        }
    }

    private static void numbersOfOneToFourDigits() {
        String[] numbers = {"0", "9", "10", "99", "100", "999", "1000", "9999", "0000", "0001", "007"};
        for (String number : numbers) {
            for (int what = 0; what < 8; what++) {
                CityRoad x = new CityRoad();
                Due.ruleOf(x, LETTERS.charAt(what) + number, 0);
                due.is("force of " + number, x.force(what, 0, 0), Integer.parseInt(number));
            }
        }
        CityRoad full = new CityRoad();
        Due.ruleOf(full, " ".repeat(35) + "H9876", 0);
        due.is("up to the TEXT's end", full.force(7, 0, 0), 9876);
        CityRoad dense = new CityRoad();
        Due.ruleOf(dense, "S1F2T3M4K5N6P7H8", 0);
        for (int what = 0; what < 8; what++) due.is("no blanks between: " + what, dense.force(what, 0, 0), what + 1);
    }

    // ---- promises 19, 20

    private static void inForceOfNone() {
        CityRoad x = new CityRoad();
        for (int what = 0; what < 8; what++) {
            due.is("force(" + what + ") of none", x.force(what, 0, 0), DEFAULTS[what]);
            due.is("force(" + what + ") on the last day", x.force(what, 999, 999), DEFAULTS[what]);
            due.is("why(" + what + ") of none", x.why(what, 999, 999), NONE);
        }
    }

    private static void inForceFromItsDay() {
        CityRoad x = new CityRoad();
        Due.ruleOf(x, "S5", 0);
        Due.ruleOf(x, "F6", 10);
        Due.ruleOf(x, "T7", 999);
        int[][] want = {{0, 0, 5}, {0, 999, 5}, {1, 9, 20}, {1, 10, 6}, {1, 11, 6}, {1, 999, 6}, {2, 998, 100}, {2, 999, 7}};
        for (int[] one : want) due.is("force(" + one[0] + ", " + one[1] + ", 0)", x.force(one[0], one[1], 0), one[2]);
        int[][] by = {{0, 0, 0}, {1, 9, NONE}, {1, 10, 1}, {2, 998, NONE}, {2, 999, 2}};
        for (int[] one : by) due.is("why(" + one[0] + ", " + one[1] + ", 0)", x.why(one[0], one[1], 0), one[2]);
    }

    private static void inForceAsKnown() {
        CityRoad x = new CityRoad();
        x.later(10);
        Due.ruleOf(x, "S5", 0);
        x.later(989);
        Due.ruleOf(x, "F6", 0);
        due.is("the day ahead of that on which it was told", x.force(0, 999, 9), 10);
        due.is("on that day", x.force(0, 0, 10), 5);
        due.is("told on the last day: ahead of it", x.force(1, 999, 998), 20);
        due.is("on it", x.force(1, 0, 999), 6);
        due.is("why: ahead of it", x.why(0, 999, 9), NONE);
        due.is("why: on it", x.why(0, 0, 10), 0);
    }

    private static void inForceTheLatest() {
        CityRoad x = new CityRoad();
        Due.ruleOf(x, "M1", 5);
        Due.ruleOf(x, "M2", 6);
        Due.ruleOf(x, "M3", 5);
        due.is("of alike from-days the one told last", x.force(3, 5, 0), 3);
        due.is("the latest from-day", x.force(3, 6, 0), 2);
        x.later(1);
        Due.ruleOf(x, "M4", 6);
        Due.ruleOf(x, "M5", 4);
        Due.ruleOf(x, "S9", 7);
        due.is("as known the day ahead", x.why(3, 6, 0), 1);
        due.is("as known then", x.why(3, 6, 1), 3);
        due.is("an earlier from-day told later", x.why(3, 5, 1), 2);
        due.is("of RULES with that letter alone", x.why(3, 999, 999), 3);
        due.is("ahead of all but one", x.why(3, 4, 1), 4);
        due.is("ahead of all", x.why(3, 3, 1), NONE);
    }

    private static void inForceTheLastItem() {
        CityRoad x = new CityRoad();
        Due.ruleOf(x, "K9K8 S1 K7", 0);
        due.is("the last item", x.force(4, 0, 0), 7);
        Due.ruleOf(x, "K3", 0);
        due.is("of the last RULES", x.force(4, 0, 0), 3);
        due.is("whose other letters stay as they were", x.force(0, 0, 0), 1);
    }

    private static void forceNumbers() {
        edge.span("force(what, 0, 0)", CityRoad::new, 0, 7, (x, what) -> x.force(what, 0, 0), what -> DEFAULTS[what]);
        edge.span("force(0, day, 0)", CityRoad::new, 0, 999, (x, day) -> x.force(0, day, 0), 10);
        edge.span("force(0, 0, known)", CityRoad::new, 0, 999, (x, known) -> x.force(0, 0, known), 10);
        CityRoad x = withText();
        x.rule(0, 0);
        edge.span("why(what, 0, 0)", CityRoad::new, 0, 7, (y, what) -> y.why(what, 0, 0), NONE);
        edge.span("why(0, day, 0)", () -> x, 0, 999, (y, day) -> y.why(0, day, 0), 0);
        edge.span("why(0, 0, known)", () -> x, 0, 999, (y, known) -> y.why(0, 0, known), 0);
    }
}
