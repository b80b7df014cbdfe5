/** Promises 11 to 17: buildings, worths, persons. */
public final class CityTest {
    private static final int BAD = CityRoad.BAD, FULL = CityRoad.FULL, STATE = CityRoad.STATE, NONE = CityRoad.NONE;
    private static final int NOUGHT = 4;
    private static final Due due = new Due("CityTest");

    public static void main(String[] args) {
        buildings();
        manyBuildings();
        worths();
        manyTellings();
        houses();
        persons();
        manyPersons();
        means();
        due.end();
    }

    /** Takes a BUILDING on a CELL beside another one. */
    private static void takeAway(CityRoad x, int b, int c, int beside) {
        Due.rowOf(x, 5, 0, 0, 0, 0);
        int l = x.line(beside, c, 5);
        x.show(l);
        x.take(b, l);
    }

    private static void buildings() {
        CityRoad x = new CityRoad();
        due.is("building(0, 0, 0, 1)", x.building(0, 0, 0, 1), 0);
        due.is("building(63, 2, 20, 100000)", x.building(63, 2, 20, 100000), 1);
        due.is("building(64, ..)", x.building(64, 0, 0, 1), BAD);
        due.is("building(-1, ..)", x.building(-1, 0, 0, 1), BAD);
        due.is("building(1, 3, ..)", x.building(1, 3, 0, 1), BAD);
        due.is("building(1, -1, ..)", x.building(1, -1, 0, 1), BAD);
        due.is("building(1, 0, 21, 1)", x.building(1, 0, 21, 1), BAD);
        due.is("building(1, 0, -1, 1)", x.building(1, 0, -1, 1), BAD);
        due.is("building(1, 0, 0, 0)", x.building(1, 0, 0, 0), BAD);
        due.is("building(1, 0, 0, 100001)", x.building(1, 0, 0, 100001), BAD);
        due.is("building on one", x.building(0, 1, 0, 1), STATE);
        x.cell(5, 4, 0);
        due.is("building on WATER", x.building(5, 1, 0, 1), STATE);
        takeAway(x, 0, 0, 1);
        due.is("building where one was TAKEN", x.building(0, 1, 3, 5), 2);
        due.is("count(1)", x.count(1), 2);
        due.is("count(7)", x.count(7), 4);
    }

    private static void manyBuildings() {
        CityRoad x = new CityRoad();
        for (int b = 0; b < 32; b++) due.is("building " + b, x.building(b, 0, 0, 1), b);
        due.is("building 32", x.building(40, 0, 0, 1), FULL);
        due.is("FULL ahead of STATE", x.building(0, 0, 0, 1), FULL);
        due.is("BAD ahead of FULL", x.building(0, 0, 0, 0), BAD);
        takeAway(x, 0, 0, 32);
        due.is("32 ever", x.building(40, 0, 0, 1), FULL);
        due.is("count(1)", x.count(1), 31);
    }

    private static void worths() {
        CityRoad x = new CityRoad();
        x.later(5);
        x.building(0, 0, 0, 100);
        x.building(1, 0, 0, 300);
        due.is("worth(0, 200)", x.worth(0, 200), 100);
        due.is("worth(0, 250)", x.worth(0, 250), 200);
        x.later(5);
        due.is("worth(0, 100000)", x.worth(0, 100000), 250);
        due.is("value(0, 4)", x.value(0, 4), NONE);
        due.is("value(0, 5)", x.value(0, 5), 250);
        due.is("value(0, 9)", x.value(0, 9), 250);
        due.is("value(0, 10)", x.value(0, 10), 100000);
        due.is("value(0, 999)", x.value(0, 999), 100000);
        due.is("value(1, 999)", x.value(1, 999), 300);
        due.is("value(0, 1000)", x.value(0, 1000), BAD);
        due.is("value(0, -1)", x.value(0, -1), BAD);
        due.is("value(2, 0)", x.value(2, 0), BAD);
        due.is("value(-1, 0)", x.value(-1, 0), BAD);
        due.is("worth(0, 0)", x.worth(0, 0), BAD);
        due.is("worth(0, 100001)", x.worth(0, 100001), BAD);
        due.is("worth(2, 1)", x.worth(2, 1), BAD);
        due.is("worth(-1, 1)", x.worth(-1, 1), BAD);
        takeAway(x, 0, 0, 8);
        due.is("worth of one TAKEN", x.worth(0, 1), STATE);
        due.is("value of one TAKEN", x.value(0, 10), 80000);
    }

    private static void manyTellings() {
        CityRoad x = new CityRoad();
        x.building(0, 0, 0, 1);
        x.building(20, 0, 0, 1);
        takeAway(x, 1, 20, 21);
        for (int i = 0; i < 97; i++) due.is("worth(0, ..)", x.worth(0, i + 2), i + 1);
        due.is("count(7)", x.count(7), 100);
        due.is("worth(0, 1)", x.worth(0, 1), FULL);
        due.is("STATE ahead of FULL", x.worth(1, 1), STATE);
        due.is("BAD ahead of all", x.worth(1, 0), BAD);
        due.is("building: tellings", x.building(2, 0, 0, 1), FULL);
        due.is("value stays", x.value(0, 0), 98);
    }

    private static void houses() {
        CityRoad x = new CityRoad();
        x.building(9, 0, 4, 5);
        x.building(12, 1, 7, 5);
        x.person(0, NONE, false, 0);
        x.person(0, NONE, false, 0);
        x.buy(0, 1);
        int[] first = {9, 0, 4, 2, 0, 1};
        int[] second = {12, 1, 7, 0, 0, NONE};
        for (int what = 0; what <= 5; what++) {
            due.tells("house(0, " + what + ")", x, x.house(0, what), first[what]);
            due.tells("house(1, " + what + ")", x, x.house(1, what), second[what]);
        }
        x.buy(0, 0);
        due.tells("house(0, 5): the last", x, x.house(0, 5), 0);
        takeAway(x, 0, 9, 10);
        due.tells("house(0, 3) TAKEN", x, x.house(0, 3), 0);
        due.tells("house(0, 4) TAKEN", x, x.house(0, 4), 1);
        due.tells("house(0, 0) TAKEN", x, x.house(0, 0), 9);
        due.is("house(0, 6)", x.house(0, 6), BAD);
        due.is("house(0, -1)", x.house(0, -1), BAD);
        due.is("house(2, 0)", x.house(2, 0), BAD);
        due.is("house(-9, 0)", x.house(-9, 0), BAD);
    }

    private static void persons() {
        CityRoad x = new CityRoad();
        x.building(0, 0, 2, 5);
        x.building(1, 1, 2, 5);
        x.building(2, 0, 0, 5);
        x.building(20, 0, 1, 5);
        takeAway(x, 3, 20, 21);
        due.is("person(0, 63, true, 9)", x.person(0, 63, true, 9), 0);
        due.is("person(NONE, NONE, false, 0)", x.person(NONE, NONE, false, 0), 1);
        due.is("no HOUSE", x.person(1, 0, true, 0), STATE);
        due.is("no ROOMS", x.person(2, 0, true, 0), STATE);
        due.is("TAKEN", x.person(3, 0, true, 0), STATE);
        due.is("person(4, ..)", x.person(4, 0, true, 0), BAD);
        due.is("person(-1, ..)", x.person(-1, 0, true, 0), BAD);
        due.is("person(0, 64, ..)", x.person(0, 64, true, 0), BAD);
        due.is("person(0, -1, ..)", x.person(0, -1, true, 0), BAD);
        due.is("person(.., 10)", x.person(0, 0, true, 10), BAD);
        due.is("person(.., -1)", x.person(0, 0, true, -1), BAD);
        due.is("one more", x.person(0, 0, false, 3), 2);
        due.is("no ROOM left", x.person(0, 0, false, 3), STATE);
        int[][] told = {{0, 63, 1, 9}, {NONE, NONE, 0, 0}, {0, 0, 0, 3}};
        for (int p = 0; p < 3; p++) {
            for (int what = 0; what <= 3; what++) {
                due.tells("who(" + p + ", " + what + ")", x, x.who(p, what), told[p][what]);
            }
        }
        due.is("who(3, 0)", x.who(3, 0), BAD);
        due.is("who(-1, 0)", x.who(-1, 0), BAD);
        due.is("who(0, 4)", x.who(0, 4), BAD);
        due.is("who(0, -1)", x.who(0, -1), BAD);
        due.is("count(2)", x.count(2), 3);
        due.is("count(3)", x.count(3), 1);
        Due.rowOf(x, 5, 0, 0, 0, 0);
        int l = x.line(8, 0, 5);
        x.show(l);
        x.take(0, l);
        due.tells("who lives nowhere", x, x.who(0, 0), NONE);
        due.is("count(3)", x.count(3), 3);
    }

    private static void manyPersons() {
        CityRoad x = new CityRoad();
        x.building(0, 1, 2, 5);
        for (int p = 0; p < 40; p++) due.is("person " + p, x.person(NONE, NONE, true, 1), p);
        due.is("person 40", x.person(NONE, NONE, true, 1), FULL);
        due.is("FULL ahead of STATE", x.person(0, NONE, true, 1), FULL);
        due.is("BAD ahead of FULL", x.person(1, NONE, true, 1), BAD);
    }

    private static void means() {
        CityRoad x = new CityRoad();
        due.finds("mean(0) of none", x, x.mean(0), NOUGHT);
        x.building(0, 0, 0, 100);
        x.building(1, 0, 0, 101);
        x.building(20, 0, 0, 99999);
        x.building(3, 2, 0, 7);
        due.tells("mean(0)", x, x.mean(0), (100 + 101 + 99999) / 3);
        due.tells("mean(2)", x, x.mean(2), 7);
        due.finds("mean(1)", x, x.mean(1), NOUGHT);
        due.is("mean(3)", x.mean(3), BAD);
        due.is("mean(-1)", x.mean(-1), BAD);
        takeAway(x, 2, 20, 28);
        due.tells("mean(0) of those that STAND, as of TODAY", x, x.mean(0), 100);
        x.later(3);
        x.worth(0, 300);
        due.tells("mean(0), cut", x, x.mean(0), 200);
    }
}
