/** Promises 34 to 43: who knew, where to go. */
public final class DealingsTest {
    private static final int BAD = CityRoad.BAD, FULL = CityRoad.FULL, STATE = CityRoad.STATE, NONE = CityRoad.NONE;
    private static final int NOTHING = 1, UNLIKE = 3;
    private static final Due due = new Due("DealingsTest");

    public static void main(String[] args) {
        buys();
        hears();
        early();
        whither();
        whitherTooFew();
        whitherChains();
        fall();
        fallAtTheCorner();
        fallByWeeks();
        noise();
        parks();
        voidHearings();
        voidTakings();
        owed();
        wrongMarks();
        due.end();
    }

    private static CityRoad fresh() {
        CityRoad x = new CityRoad();
        Due.rowOf(x, 0, 0, 0, 0, 0);
        return x;
    }

    private static void buys() {
        CityRoad x = fresh();
        x.building(0, 1, 0, 1);
        x.building(20, 0, 0, 1);
        x.person(NONE, NONE, true, 0);
        x.line(20, 21, 0);
        x.show(0);
        x.take(1, 0);
        due.is("buy of one TAKEN", x.buy(1, 0), STATE);
        due.is("buy(2, 0)", x.buy(2, 0), BAD);
        due.is("buy(-1, 0)", x.buy(-1, 0), BAD);
        due.is("buy(0, 1)", x.buy(0, 1), BAD);
        due.is("buy(0, -1)", x.buy(0, -1), BAD);
        for (int i = 1; i <= 40; i++) due.is("buy " + i, x.buy(0, 0), i);
        due.is("buy 41", x.buy(0, 0), FULL);
        due.is("FULL ahead of STATE", x.buy(1, 0), FULL);
        due.is("BAD ahead of FULL", x.buy(0, 1), BAD);
        due.is("count(6)", x.count(6), 40);
    }

    private static void hears() {
        CityRoad x = fresh();
        for (int p = 0; p < 31; p++) x.person(NONE, NONE, true, 0);
        x.line(0, 1, 0);
        x.ramp(0, 8);
        x.grant(1, 1);
        due.is("hear(0, 0)", x.hear(0, 0), 0);
        x.later(7);
        due.is("hear(0, 0) again", x.hear(0, 0), 0);
        due.is("hear(0, 1)", x.hear(0, 1), 7);
        due.finds("hear(0, 2)", x, x.hear(0, 2), UNLIKE);
        due.is("hear(0, 3)", x.hear(0, 3), BAD);
        due.is("hear(0, -1)", x.hear(0, -1), BAD);
        due.is("hear(31, 0)", x.hear(31, 0), BAD);
        due.is("hear(-1, 0)", x.hear(-1, 0), BAD);
        for (int p = 1; p < 30; p++) {
            due.is("hear(" + p + ", 0)", x.hear(p, 0), 7);
            due.is("hear(" + p + ", 1)", x.hear(p, 1), 7);
        }
        x.later(1);
        due.is("the 61st", x.hear(30, 0), FULL);
        due.is("one that was ahead already", x.hear(29, 1), 7);
        due.finds("UNLIKE ahead of FULL", x, x.hear(30, 2), UNLIKE);
    }

    private static void early() {
        CityRoad x = fresh();
        x.building(0, 0, 0, 10);
        x.building(1, 1, 0, 10);
        x.building(20, 0, 0, 10);
        x.person(NONE, NONE, true, 1);
        x.person(NONE, NONE, true, 1);
        x.person(NONE, NONE, true, 2);
        x.person(NONE, NONE, true, 2);
        x.line(0, 3, 0);
        x.line(0, 1, 0);
        x.ramp(0, 8);
        due.is("none", x.early(0), 0);
        x.later(3);
        x.buy(0, 0);
        due.is("neither", x.early(0), 0);
        x.hear(1, 0);
        due.is("another one of the KIN, that day", x.early(0), 1);
        x.hear(0, 0);
        due.is("the buyer, that day", x.early(0), 100);
        due.is("of another LINE", x.early(1), 0);
        due.is("of a RAMP", x.early(2), 0);
        x.buy(1, 1);
        x.buy(1, 1);
        x.buy(2, 1);
        due.is("not on its CELLS", x.early(0), 300);
        x.buy(0, 2);
        due.is("of another KIN", x.early(0), 300);
        x.later(1);
        x.hear(2, 0);
        x.hear(3, 0);
        due.is("too late to know", x.early(0), 300);
        x.buy(0, 3);
        due.is("in time", x.early(0), 400);
        x.show(0);
        due.is("ahead of the day on which it was SHOWN", x.early(0), 300);
        x.hear(0, 1);
        due.is("of one not SHOWN: any day", x.early(1), 0);
        x.buy(1, 0);
        due.is("sure", x.early(1), 100);
        x.buy(1, 1);
        due.is("and may", x.early(1), 101);
        x.take(0, 0);
        due.is("TAKEN since", x.early(0), 300);
        x.later(5);
        x.show(1);
        due.is("SHOWN later", x.early(1), 101);
    }

    private static void whither() {
        CityRoad x = fresh();
        x.building(0, 0, 5, 10);
        x.building(7, 0, 1, 10);
        x.building(56, 0, 1, 10);
        x.building(63, 0, 9, 10);
        x.building(40, 1, 9, 10);
        x.line(0, 1, 0);
        due.is("none lives there", x.whither(0), 0);
        due.is("asked()", x.asked(), 0);
        x.person(0, 6, true, 1);
        due.is("whither(0)", x.whither(0), 1);
        due.is("to the nearest", x.asked(), 1);
        x.person(0, 15, true, 1);
        due.is("whither(0)", x.whither(0), 2);
        due.is("one to the next best", x.asked(), 1 + 6);
        x.person(0, NONE, true, 1);
        due.is("whither(0)", x.whither(0), 3);
        due.is("no WORK: 0", x.asked(), 1 + 6);
        x.person(2, 0, true, 1);
        x.person(0, 56, true, 1);
        due.is("whither(0)", x.whither(0), 4);
        due.is("no ROOM left there", x.asked(), 1 + 6 + 7);
        due.tells("none has gone", x, x.house(0, 3), 4);
        x.building(1, 0, 9, 10);
        x.whither(0);
        due.is("not on its CELLS", x.asked(), 1 + 6 + 7);
        x.ramp(0, 8);
        due.is("of a RAMP", x.whither(1), 0);
    }

    private static void whitherTooFew() {
        CityRoad x = fresh();
        x.building(0, 0, 5, 10);
        x.building(63, 0, 2, 10);
        x.person(0, 0, true, 1);
        x.person(0, 62, true, 1);
        x.person(0, 30, true, 1);
        x.person(0, 1, true, 1);
        x.person(0, 55, true, 1);
        x.line(0, 1, 0);
        due.is("as many as can be", x.whither(0), 2);
        due.is("those of the least sum", x.asked(), 2);
        x.show(0);
        x.take(0, 0);
        due.is("who lives nowhere stays so", x.whither(0), 0);
    }

    private static void whitherChains() {
        CityRoad x = fresh();
        x.building(0, 0, 3, 10);
        x.building(16, 0, 1, 10);
        x.building(20, 0, 1, 10);
        x.building(23, 0, 1, 10);
        x.person(0, 18, true, 1);
        x.person(0, 16, true, 1);
        x.person(0, 20, true, 1);
        x.line(0, 1, 0);
        due.is("whither(0)", x.whither(0), 3);
        due.is("all give way", x.asked(), 5);
    }

    private static void fall() {
        CityRoad x = fresh();
        x.building(0, 0, 9, 10);
        x.building(2, 1, 0, 10);
        x.building(16, 1, 0, 10);
        x.building(63, 1, 0, 10);
        x.building(57, 2, 0, 10);
        x.person(0, NONE, true, 1);
        x.person(0, NONE, true, 1);
        x.line(61, 62, 0);
        due.is("fall(0, 0)", x.fall(0, 0), 0);
        due.is("set()", x.set(), 0);
        due.is("fall(0, 1)", x.fall(0, 1), 2);
        due.is("the least of alike ones stays", x.set(), 1 << 2 | 1 << 3);
        due.is("fall(0, 20)", x.fall(0, 20), 2);
        x.line(2, 10, 0);
        due.is("those on the LINE aside", x.fall(1, 20), 1);
        due.is("set()", x.set(), 1 << 3);
        x.cell(8, 4, 0);
        x.line(1, 9, 0);
        due.is("who comes to none", x.fall(2, 20), 3);
        due.is("set()", x.set(), 1 << 1 | 1 << 2 | 1 << 3);
        x.line(0, 1, 0);
        due.is("whose HOME is on the LINE", x.fall(3, 20), 3);
        x.cell(1, 4, 50);
        x.cell(8, 0, 99);
        due.is("WATER; no slope matters", x.fall(0, 20), 2);
        due.is("set()", x.set(), 1 << 1 | 1 << 3);
        Due.ruleOf(x, "K3", 0);
        due.is("fewer than K", x.fall(0, 20), 3);
        Due.ruleOf(x, "K0", 0);
        due.is("none is fewer than 0", x.fall(0, 20), 0);
    }

    private static void fallAtTheCorner() {
        CityRoad x = fresh();
        x.building(1, 0, 9, 10);
        x.building(8, 1, 0, 10);
        x.person(0, NONE, true, 1);
        x.person(0, NONE, true, 1);
        for (int c = 2; c < 64; c += 8) x.cell(c, 4, 0);
        x.line(9, 17, 0);
        due.is("by the corner", x.fall(0, 1), 0);
        x.cell(0, 4, 0);
        due.is("WATER there", x.fall(0, 1), 1);
        due.is("set()", x.set(), 2);
    }

    private static void fallByWeeks() {
        CityRoad x = fresh();
        // who walks to a SHOP that stays open stays with it: no later week closes more than the first one
        int[] living = {1, 2, 3, 4};
        for (int i = 0; i < 4; i++) x.building(2 * i, 0, 9, 10);
        for (int i = 0; i < 4; i++) x.building(2 * i + 1, 1, 0, 10);
        for (int c = 8; c < 16; c++) x.cell(c, 4, 0);
        for (int i = 0; i < 4; i++) {
            for (int p = 0; p < living[i]; p++) x.person(i, NONE, true, 1);
        }
        x.line(60, 61, 0);
        Due.ruleOf(x, "K4", 0);
        long three = 1 << 4 | 1 << 5 | 1 << 7;
        due.is("fall(0, 1)", x.fall(0, 1), 3);
        due.is("set()", x.set(), three);
        due.is("fall(0, 2)", x.fall(0, 2), 3);
        due.is("fall(0, 20)", x.fall(0, 20), 3);
        due.is("set()", x.set(), three);
        Due.ruleOf(x, "K3", 0);
        due.is("fall(0, 20)", x.fall(0, 20), 1);
        due.is("set()", x.set(), 1 << 7);
        due.is("fall(0, 21)", x.fall(0, 21), BAD);
        due.is("fall(0, -1)", x.fall(0, -1), BAD);
        due.is("set() stays", x.set(), 1 << 7);
    }

    private static void noise() {
        CityRoad x = fresh();
        x.building(0, 0, 5, 10);
        x.building(1, 0, 5, 10);
        x.building(2, 1, 5, 10);
        x.building(10, 0, 5, 10);
        x.building(63, 0, 5, 10);
        x.person(0, NONE, true, 1);
        x.person(1, NONE, true, 1);
        x.person(1, NONE, true, 1);
        x.person(4, NONE, true, 1);
        x.line(0, 8, 0);
        Due.rowOf(x, 1, 61, 60, 100);
        due.is("above N, not as it", x.noise(0, 1), 2);
        due.is("how many live there", x.asked(), 1);
        Due.ruleOf(x, "N59", 0);
        due.is("by the N IN FORCE", x.noise(0, 1), 3);
        due.is("how many live there", x.asked(), 3);
        Due.ruleOf(x, "N0", 0);
        due.is("beyond its end: 0", x.noise(0, 1), 3);
        Due.rowOf(x, 1, 0, 0, 0, 0, 0, 0, 0, 0, 0, 0, 0, 0, 0, 1);
        due.is("13 steps", x.noise(0, 1), 1);
        due.is("how many live there", x.asked(), 1);
        Due.rowOf(x, 1, Integer.MIN_VALUE, -1, Integer.MAX_VALUE);
        due.is("below 0", x.noise(0, 1), 1);
        x.row(1, 40);
        x.lay(1, 39, 100);
        due.is("a long ROW", x.noise(0, 1), 0);
        x.row(1, 0);
        due.is("an empty ROW", x.noise(0, 1), 0);
        Due.ruleOf(x, "N0", 0);
        x.line(1, 2, 0);
        x.ramp(1, 0);
        x.row(1, 15);
        x.lay(1, 14, 1);
        due.is("14 steps", x.noise(2, 1), 1);
        due.is("none is so far", x.noise(1, 1), 0);
        due.finds("a missing ROW", x, x.noise(0, 5), NOTHING);
        due.is("noise(0, 6)", x.noise(0, 6), BAD);
        due.is("noise(0, -1)", x.noise(0, -1), BAD);
        x.grant(1, 1);
        due.finds("UNLIKE ahead of NOTHING", x, x.noise(3, 5), UNLIKE);
        Due.rowOf(x, 1, 1);
        due.is("HOUSES that STAND", x.noise(0, 1), 1);
        x.show(0);
        x.take(0, 0);
        due.is("HOUSES that STAND", x.noise(0, 1), 0);
    }

    private static void parks() {
        CityRoad x = fresh();
        x.line(0, 5, 0);
        for (int c = 0; c < 3; c++) x.cell(c, 2, 0);
        x.cell(9, 2, 0);
        due.is("park(0)", x.park(0), 1);
        due.is("by asked()", x.asked(), 3);
        x.cell(5, 2, 0);
        due.is("park(0)", x.park(0), 0);
        due.is("by asked()", x.asked(), 4);
        Due.ruleOf(x, "P4", 1);
        due.is("not yet IN FORCE", x.park(0), 0);
        x.later(1);
        due.is("IN FORCE", x.park(0), 1);
    }

    private static void voidHearings() {
        CityRoad x = fresh();
        x.building(0, 0, 5, 10);
        x.line(0, 1, 0);
        x.hearing(0, 0, 0, 7);
        due.is("nobody could come", x.isVoid(1), 1);
        x.person(0, NONE, true, 1);
        due.is("7 days ahead", x.isVoid(1), 0);
        x.hearing(0, 0, 0, 6);
        due.is("6 days ahead", x.isVoid(2), 1);
        x.later(2);
        Due.ruleOf(x, "H6", 0);
        due.is("as it was called, as known then", x.isVoid(2), 1);
        x.hearing(0, 0, 0, 8);
        x.hearing(0, 0, 0, 7);
        due.is("6 days ahead", x.isVoid(3), 0);
        due.is("5 days ahead", x.isVoid(4), 1);
        Due.ruleOf(x, "H5", 0);
        due.is("as known on that day", x.isVoid(4), 0);
        x.later(1);
        Due.ruleOf(x, "H99", 2);
        due.is("what is known later does not matter", x.isVoid(3), 0);
        Due.ruleOf(x, "H0", 3);
        x.hearing(0, 0, 0, 3);
        due.is("0 days ahead", x.isVoid(5), 0);
        x.person(0, 5, true, 1);
        x.show(0);
        x.take(0, 0);
        due.is("nobody could come any more", x.isVoid(5), 1);
    }

    private static void voidTakings() {
        CityRoad x = fresh();
        x.building(0, 0, 5, 10);
        x.building(1, 0, 5, 10);
        x.building(60, 0, 5, 10);
        x.person(2, NONE, true, 1);
        x.line(0, 1, 0);
        x.line(0, 8, 0);
        x.show(0);
        x.hearing(1, 60, 0, 7);
        x.hearing(0, 60, 0, 8);
        x.later(7);
        x.take(0, 0);
        due.is("the HEARING of another LINE; one held later", x.isVoid(4), 1);
        x.later(1);
        x.take(1, 0);
        due.is("held on its day", x.isVoid(5), 0);
        due.is("no later one helps", x.isVoid(4), 1);
        Due.ruleOf(x, "H0", 8);
        x.hearing(0, 60, 0, 8);
        due.is("nor one of today", x.isVoid(4), 1);
        due.is("owed()", x.owed(), 1);
        x.line(60, 61, 0);
        x.show(7);
        x.take(2, 7);
        due.is("all hang on who could come", x.isVoid(5), 1);
        due.is("owed()", x.owed(), 3);
    }

    private static void owed() {
        CityRoad x = fresh();
        due.is("owed()", x.owed(), 0);
        due.is("coins()", x.coins(), 0);
        x.building(0, 0, 5, 1000);
        x.building(1, 0, 5, 2000);
        x.building(60, 0, 5, 10);
        x.person(0, NONE, true, 1);
        x.person(0, NONE, true, 1);
        x.line(0, 1, 0);
        x.show(0);
        x.take(0, 0);
        x.moved(1, 0, 2);
        x.moved(1, 1, 2);
        x.take(1, 0);
        x.grant(10, 999);
        due.is("coins() stays", x.coins(), 0);
        due.is("TAKINGS that are VOID, no MOVED ones", x.owed(), 2);
        due.is("what is paid and owed", x.coins(), 1000 + 2000 + 50 + 50);
        due.is("grants(5, 0)", x.grants(5, 0), 1);
        due.is("coins() of grants()", x.coins(), 30);
        due.is("grants(6, 0)", x.grants(6, 0), BAD);
        due.is("coins() stays", x.coins(), 30);
    }

    private static void wrongMarks() {
        CityRoad x = fresh();
        x.building(0, 0, 1, 1);
        x.person(NONE, NONE, true, 1);
        x.grant(1, 1);
        x.line(0, 1, 0);
        int[] none = {2, -1, NONE, Integer.MAX_VALUE, Integer.MIN_VALUE};
        for (int l : none) {
            due.is("early", x.early(l), BAD);
            due.is("whither", x.whither(l), BAD);
            due.is("fall", x.fall(l, 1), BAD);
            due.is("noise", x.noise(l, 0), BAD);
            due.is("park", x.park(l), BAD);
            due.is("isVoid", x.isVoid(l), BAD);
            due.is("hear", x.hear(0, l), BAD);
        }
        due.finds("early of a GRANT", x, x.early(0), UNLIKE);
        due.finds("whither of a GRANT", x, x.whither(0), UNLIKE);
        due.finds("fall of a GRANT", x, x.fall(0, 1), UNLIKE);
        due.is("BAD ahead of UNLIKE", x.fall(0, 21), BAD);
        due.finds("noise of a GRANT", x, x.noise(0, 0), UNLIKE);
        due.finds("park of a GRANT", x, x.park(0), UNLIKE);
        due.finds("isVoid of a GRANT", x, x.isVoid(0), UNLIKE);
        due.finds("isVoid of a LINE", x, x.isVoid(1), UNLIKE);
        x.building(20, 0, 2, 1);
        x.person(0, NONE, true, 1);
        x.show(1);
        x.take(0, 1);
        x.moved(2, 1, 1);
        due.finds("isVoid of a MOVED one", x, x.isVoid(3), UNLIKE);
        x.ramp(1, 8);
        due.finds("isVoid of a RAMP", x, x.isVoid(4), UNLIKE);
        due.is("isVoid of a TAKING", x.isVoid(2), 1);
    }
}
