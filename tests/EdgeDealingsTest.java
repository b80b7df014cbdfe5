/** The boundary cases of promises 34 to 43: who knew, where to go, noise, parks, what is void. */
public final class EdgeDealingsTest {
    private static final int BAD = Edge.BAD, FULL = Edge.FULL, STATE = Edge.STATE, NONE = Edge.NONE;
    private static final int NOTHING = Edge.NOTHING, UNLIKE = Edge.UNLIKE;
    private static final int LEAST = Edge.LEAST, MOST = Edge.MOST;
    private static final int WATER = 4;
    private static final Due due = new Due("EdgeDealingsTest");
    private static final Edge edge = new Edge(due);

    public static void main(String[] args) {
        marksOfAnotherKind();
        marksThatAreNone();
        buys40();
        buyOrder();
        heard60();
        heardOnce();
        hearOrder();
        earlyDays();
        earlyKnowledge();
        earlyMany();
        whitherOfNone();
        whitherRooms();
        whitherWhere();
        whitherFewerRoomsThanPersons();
        fallWeeks();
        fallFewerThanK();
        fallTheNearest();
        fallWhoWalksToNone();
        fallNoWrapAround();
        noiseAboveN();
        noiseBeyondItsEnd();
        noiseFarthest();
        noiseOrder();
        parkNoMoreThanP();
        hearingVoidByDays();
        hearingVoidByAllWhoCouldCome();
        takingVoidByDays();
        takingVoidByItsLine();
        owedOfNone();
        owedOfTheGreatest();
        coinsOfTheLatest();
        due.end();
    }

    private static CityRoad plain() {
        CityRoad x = new CityRoad();
        Due.rowOf(x, 0, 0, 0, 0, 0);
        return x;
    }

    /** MARKS: 0 a LINE over 0, 1; 1 its RAMP at 8; 2 a GRANT; 3 a TAKING; 4 one MOVED; 5 a HEARING. */
    private static CityRoad withAllKinds() {
        CityRoad x = plain();
        x.building(0, 0, 3, 500);
        x.building(60, 0, 1, 500);
        x.person(0, NONE, true, 1);
        x.person(NONE, NONE, true, 1);
        x.line(0, 1, 0);
        x.ramp(0, 8);
        x.grant(4, 9);
        x.show(0);
        x.take(0, 0);
        x.moved(3, 0, 1);
        x.hearing(0, 60, 20, 8);
        return x;
    }

    private static void marksOfAnotherKind() {
        CityRoad x = withAllKinds();
        for (int m = 2; m <= 5; m++) {
            int other = m;
            edge.finds("hear(0, " + m + ")", x, y -> y.hear(0, other), UNLIKE);
            edge.finds("early(" + m + ")", x, y -> y.early(other), UNLIKE);
            edge.finds("whither(" + m + ")", x, y -> y.whither(other), UNLIKE);
            edge.finds("fall(" + m + ", 0)", x, y -> y.fall(other, 0), UNLIKE);
            edge.finds("noise(" + m + ", 0)", x, y -> y.noise(other, 0), UNLIKE);
            edge.finds("park(" + m + ")", x, y -> y.park(other), UNLIKE);
        }
        for (int m : new int[] {0, 1, 2, 4}) edge.finds("isVoid(" + m + ")", x, y -> y.isVoid(m), UNLIKE);
        due.is("isVoid of a TAKING", x.isVoid(3), 1);
        due.is("isVoid of a HEARING", x.isVoid(5), 0);
    }

    private static void marksThatAreNone() {
        int[] none = {-1, 6, 23, 24, NONE, LEAST, MOST};
        edge.bad("hear(0, m)", EdgeDealingsTest::withAllKinds, (x, m) -> x.hear(0, m), none);
        edge.bad("early(m)", EdgeDealingsTest::withAllKinds, (x, m) -> x.early(m), none);
        edge.bad("whither(m)", EdgeDealingsTest::withAllKinds, (x, m) -> x.whither(m), none);
        edge.bad("fall(m, 1)", EdgeDealingsTest::withAllKinds, (x, m) -> x.fall(m, 1), none);
        edge.bad("noise(m, 0)", EdgeDealingsTest::withAllKinds, (x, m) -> x.noise(m, 0), none);
        edge.bad("park(m)", EdgeDealingsTest::withAllKinds, (x, m) -> x.park(m), none);
        edge.bad("isVoid(m)", EdgeDealingsTest::withAllKinds, (x, m) -> x.isVoid(m), none);
    }

    // ---- promise 34

    private static void buys40() {
        CityRoad x = withAllKinds();
        due.is("none", x.count(6), 0);
        for (int i = 1; i <= 40; i++) due.is("buy " + i, x.buy(1, i % 2), i);
        edge.refused("the 41st", x, y -> y.buy(1, 0), FULL);
        edge.refused("FULL ahead of STATE", x, y -> y.buy(0, 0), FULL);
        edge.refused("BAD ahead of FULL", x, y -> y.buy(2, 0), BAD);
        due.is("40", x.count(6), 40);
        due.tells("who bought it last", x, x.house(1, 5), 0);
    }

    private static void buyOrder() {
        edge.bad("buy(b, 0)", EdgeDealingsTest::withAllKinds, (x, b) -> x.buy(b, 0), -1, 2, 31, 32, NONE, LEAST, MOST);
        edge.bad("buy(1, p)", EdgeDealingsTest::withAllKinds, (x, p) -> x.buy(1, p), -1, 2, 39, 40, NONE, LEAST, MOST);
        CityRoad x = withAllKinds();
        edge.refused("STATE: TAKEN", x, y -> y.buy(0, 0), STATE);
        edge.refused("BAD ahead of STATE", x, y -> y.buy(0, 2), BAD);
        due.is("by one who lives nowhere", x.buy(1, 1), 1);
        due.is("of one's own HOUSE", x.buy(1, 0), 2);
        due.is("again", x.buy(1, 0), 3);
    }

    // ---- promise 35

    /** PERSONS 0 to 29 HEARD of both LINES (0 and 1) on day 5; PERSON 30 of none. MARK 2 is a GRANT. */
    private static CityRoad withHeard(int number) {
        CityRoad x = plain();
        for (int p = 0; p < 31; p++) x.person(NONE, NONE, true, 1);
        x.line(0, 1, 0);
        x.line(2, 3, 0);
        x.grant(1, 1);
        x.later(5);
        for (int i = 0; i < number; i++) x.hear(i / 2, i % 2);
        return x;
    }

    private static void heard60() {
        CityRoad x = withHeard(59);
        due.is("the 60th", x.hear(30, 0), 5);
        edge.refused("the 61st", x, y -> y.hear(30, 1), FULL);
        edge.refused("the 61st, by another one", x, y -> y.hear(29, 1), FULL);
        x.later(1);
        edge.refused("on a later day, too", x, y -> y.hear(30, 1), FULL);
    }

    private static void heardOnce() {
        CityRoad x = withHeard(60);
        x.later(7);
        due.is("the first time, as 60 are full", x.hear(29, 1), 5);
        due.is("the first of all", x.hear(0, 0), 5);
        CityRoad z = withHeard(59);
        z.later(7);
        for (int i = 0; i < 5; i++) due.is("again and again", z.hear(7, 1), 5);
        due.is("what is told again takes no place", z.hear(30, 0), 12);
        due.is("the day on which that was", z.hear(30, 0), 12);
        edge.refused("now 60 are full", z, y -> y.hear(30, 1), FULL);
    }

    private static void hearOrder() {
        CityRoad x = withHeard(60);
        edge.bad("hear(p, 0)", () -> withHeard(60), (y, p) -> y.hear(p, 0), -1, 31, 40, NONE, LEAST, MOST);
        edge.refused("BAD ahead of UNLIKE", x, y -> y.hear(31, 2), BAD);
        edge.refused("BAD ahead of FULL", x, y -> y.hear(30, 3), BAD);
        edge.finds("UNLIKE ahead of FULL", x, y -> y.hear(30, 2), UNLIKE);
    }

    // ---- promise 36

    /** A HOUSE on LINE 0 (shown on day 10, if at all) and one off it; PERSONS 0 and 1 of KIN 1, 2 of KIN 2. */
    private static CityRoad forEarly() {
        CityRoad x = plain();
        x.building(0, 0, 3, 500);
        x.building(9, 0, 3, 500);
        x.person(NONE, NONE, true, 1);
        x.person(NONE, NONE, true, 1);
        x.person(NONE, NONE, true, 2);
        x.line(0, 1, 0);
        return x;
    }

    private static void earlyDays() {
        CityRoad x = forEarly();
        x.hear(0, 0);
        x.later(9);
        x.buy(0, 0);
        due.is("of a LINE that is not SHOWN: any day", x.early(0), 100);
        x.later(1);
        x.buy(0, 0);
        due.is("still any day", x.early(0), 200);
        x.show(0);
        due.is("ahead of the day on which it was SHOWN", x.early(0), 100);
        x.buy(0, 0);
        x.later(1);
        x.buy(0, 0);
        due.is("on that day, and behind it", x.early(0), 100);
        x.buy(1, 0);
        due.is("not on its CELLS", x.early(0), 100);
        CityRoad first = forEarly();
        first.hear(0, 0);
        first.buy(0, 0);
        first.show(0);
        due.is("no day is ahead of day 0", first.early(0), 0);
        CityRoad last = forEarly();
        last.hear(0, 0);
        last.later(999);
        last.buy(0, 0);
        due.is("the last day", last.early(0), 100);
    }

    private static void earlyKnowledge() {
        CityRoad x = forEarly();
        x.later(3);
        x.buy(0, 0);
        due.is("nobody HEARD of it", x.early(0), 0);
        x.hear(2, 0);
        due.is("one of another KIN", x.early(0), 0);
        x.hear(1, 0);
        due.is("another one of the KIN, by the day of the BUY", x.early(0), 1);
        x.hear(0, 0);
        due.is("the buyer, by the day of the BUY", x.early(0), 100);
        CityRoad late = forEarly();
        late.later(3);
        late.buy(0, 0);
        late.later(1);
        late.hear(0, 0);
        late.hear(1, 0);
        due.is("a day too late, both", late.early(0), 0);
        late.buy(0, 1);
        due.is("in time by now", late.early(0), 100);
        late.person(NONE, NONE, true, 1);
        late.buy(0, 3);
        due.is("of a KIN that knew", late.early(0), 101);
        late.buy(0, 2);
        due.is("of one that did not", late.early(0), 101);
        CityRoad kin = forEarly();
        kin.hear(0, 0);
        kin.later(1);
        kin.buy(0, 1);
        kin.later(1);
        kin.hear(1, 0);
        due.is("the buyer HEARD too late, the KIN did not", kin.early(0), 1);
        kin.ramp(0, 8);
        kin.building(8, 0, 0, 1);
        kin.buy(2, 0);
        due.is("who HEARD of the LINE did not hear of its RAMP", kin.early(1), 0);
        kin.hear(0, 1);
        due.is("but so", kin.early(1), 100);
    }

    private static void earlyMany() {
        CityRoad x = forEarly();
        x.hear(0, 0);
        for (int i = 0; i < 40; i++) x.buy(0, 0);
        due.is("40 SURE ones", x.early(0), 4000);
        CityRoad y = forEarly();
        y.hear(0, 0);
        for (int i = 0; i < 40; i++) y.buy(0, 1);
        due.is("40 that MAY be", y.early(0), 40);
    }

    // ---- promise 37

    private static void whitherOfNone() {
        CityRoad x = plain();
        x.line(0, 1, 0);
        due.is("nobody at all", x.whither(0), 0);
        due.is("asked()", x.asked(), 0);
        x.building(0, 0, 5, 1);
        due.is("nobody lives there", x.whither(0), 0);
        x.person(0, 63, true, 1);
        x.lay(0, 0, 7);
        x.lay(0, 0, 0);
        due.is("asked()", x.asked(), 7);
        due.is("no HOUSE to go to", x.whither(0), 0);
        due.is("the sum of none", x.asked(), 0);
        x.building(30, 1, 5, 1);
        x.building(31, 2, 5, 1);
        x.building(32, 0, 0, 1);
        due.is("a SHOP, a CHURCH, a HOUSE with no ROOMS", x.whither(0), 0);
        x.building(1, 0, 5, 1);
        due.is("a HOUSE on its CELLS", x.whither(0), 0);
        x.building(33, 0, 1, 1);
        due.is("one ROOM", x.whither(0), 1);
        due.is("from the new HOUSE to WORK", x.asked(), 6 + 3);
    }

    private static void whitherRooms() {
        CityRoad x = plain();
        x.building(0, 0, 20, 1);
        x.building(1, 0, 20, 1);
        x.line(0, 1, 0);
        for (int p = 0; p < 20; p++) x.person(0, 63, true, 1);
        for (int p = 0; p < 20; p++) x.person(1, 63, true, 1);
        x.building(63, 0, 20, 1);
        x.building(62, 0, 20, 1);
        due.is("all 40", x.whither(0), 40);
        due.is("20 with no STEPS, 20 with one", x.asked(), 20);
        due.is("ROOMS for 40, no more", x.building(56, 0, 20, 1), 4);
        due.is("farther off: nobody", x.whither(0), 40);
        due.is("the same sum", x.asked(), 20);
        due.tells("nobody has gone", x, x.house(0, 3), 20);
    }

    private static void whitherWhere() {
        CityRoad x = plain();
        x.building(0, 0, 5, 1);
        x.person(0, 7, true, 1);
        x.person(0, NONE, true, 1);
        x.line(0, 1, 0);
        x.building(15, 0, 1, 1);
        x.building(8, 0, 1, 1);
        due.is("both are led", x.whither(0), 2);
        due.is("no WORK: 0", x.asked(), 1);
        x.person(2, NONE, true, 1);
        due.is("one ROOM less", x.whither(0), 1);
        due.is("the one with no WORK: the least sum", x.asked(), 0);
        x.line(15, 14, 0);
        x.show(1);
        x.take(1, 1);
        due.is("TAKEN", x.whither(0), 0);
        CityRoad wrap = plain();
        wrap.building(0, 0, 5, 1);
        wrap.person(0, 8, true, 1);
        wrap.line(0, 1, 0);
        wrap.building(7, 0, 1, 1);
        due.is("led to 7", wrap.whither(0), 1);
        due.is("8 is 8 STEPS off", wrap.asked(), 8);
        wrap.building(55, 0, 1, 1);
        wrap.whither(0);
        due.is("55 is 12 STEPS off", wrap.asked(), 8);
    }

    private static void whitherFewerRoomsThanPersons() {
        CityRoad x = plain();
        x.building(0, 0, 5, 1);
        x.person(0, 56, true, 1);
        x.person(0, 63, true, 1);
        x.person(0, 59, true, 1);
        x.line(0, 1, 0);
        x.building(7, 0, 2, 1);
        due.is("as many as there are ROOMS", x.whither(0), 2);
        due.is("those with the least sum", x.asked(), 7 + 11);
        x.building(6, 0, 1, 1);
        due.is("as many as there are PERSONS", x.whither(0), 3);
        due.is("the sum of all", x.asked(), 7 + 11 + 13);
    }

    // ---- promise 38

    private static CityRoad forFall(int people) {
        CityRoad x = plain();
        x.building(0, 0, 20, 1);
        for (int p = 0; p < people; p++) x.person(0, NONE, true, 1);
        x.building(2, 1, 0, 1);
        x.line(62, 63, 0);
        return x;
    }

    private static void fallWeeks() {
        edge.span("fall(0, n)", () -> forFall(1), 0, 20, (x, n) -> x.fall(0, n), n -> n == 0 ? 0 : 1);
        CityRoad x = forFall(1);
        due.is("0 weeks", x.fall(0, 0), 0);
        due.is("set()", x.set(), 0);
        due.is("1 week", x.fall(0, 1), 1);
        due.is("set()", x.set(), 2);
        due.is("0 weeks again", x.fall(0, 0), 0);
        due.is("set() of none", x.set(), 0);
        x.fall(0, 20);
        edge.refused("21 weeks", x, y -> y.fall(0, 21), BAD);
        x.grant(1, 1);
        edge.refused("BAD ahead of UNLIKE", x, y -> y.fall(1, -1), BAD);
        due.is("nothing closes for ever", x.fall(0, 1), 1);
    }

    private static void fallFewerThanK() {
        due.is("one of two", forFall(1).fall(0, 1), 1);
        due.is("two of two", forFall(2).fall(0, 20), 0);
        CityRoad x = forFall(2);
        Due.ruleOf(x, "K3", 1);
        due.is("K is not yet 3", x.fall(0, 1), 0);
        x.later(1);
        due.is("two of three", x.fall(0, 1), 1);
        Due.ruleOf(x, "K0", 1);
        x.building(63, 1, 0, 1);
        x.building(40, 1, 0, 1);
        due.is("none of none", x.fall(0, 20), 0);
        Due.ruleOf(x, "K1", 1);
        due.is("none of one", x.fall(0, 20), 1);
        due.is("a SHOP on the LINE aside", x.set(), 1 << 3);
        Due.ruleOf(x, "K9999", 1);
        due.is("two of 9999", x.fall(0, 1), 2);
        CityRoad none = plain();
        none.line(0, 1, 0);
        due.is("no SHOP at all", none.fall(0, 20), 0);
        CityRoad all = plain();
        for (int b = 0; b < 32; b++) all.building(b, 1, 0, 1);
        all.line(62, 63, 0);
        due.is("32 SHOPS", all.fall(0, 1), 32);
        due.is("set()", all.set(), 0xFFFFFFFFL);
        CityRoad open = forFall(2);
        open.building(9, 1, 0, 1);
        due.is("the nearest, of alike ones the least", open.fall(0, 1), 1);
        due.is("set()", open.set(), 1 << 2);
        open.line(2, 3, 0);
        due.is("the least is on the LINE", open.fall(1, 20), 0);
    }

    private static void fallTheNearest() {
        CityRoad x = plain();
        x.building(27, 0, 20, 1);
        x.person(0, NONE, true, 1);
        x.person(0, NONE, true, 1);
        x.building(31, 1, 0, 1);
        x.building(24, 1, 0, 1);
        x.line(62, 63, 0);
        due.is("3 STEPS against 4", x.fall(0, 1), 1);
        due.is("set()", x.set(), 1 << 1);
        x.cell(26, WATER, 0);
        due.is("5 around WATER against 4", x.fall(0, 1), 1);
        due.is("set()", x.set(), 1 << 2);
        x.cell(26, 0, 99);
        due.is("no slope matters", x.fall(0, 1), 1);
        due.is("set()", x.set(), 1 << 1);
        x.cell(26, 0, 0);
        x.line(26, 18, 0);
        due.is("not on the LINE", x.fall(1, 1), 1);
        due.is("set()", x.set(), 1 << 2);
        x.building(28, 1, 0, 1);
        x.line(28, 20, 0);
        due.is("a SHOP on the LINE is closed, and in the way", x.fall(2, 20), 1);
        due.is("set()", x.set(), 1 << 1);
    }

    private static void fallWhoWalksToNone() {
        CityRoad x = forFall(2);
        x.cell(1, WATER, 0);
        x.cell(8, WATER, 0);
        due.is("WATER all around", x.fall(0, 1), 1);
        x.cell(8, 0, 0);
        due.is("but one way", x.fall(0, 1), 0);
        x.line(0, 8, 0);
        due.is("a HOME on the LINE", x.fall(1, 1), 1);
        x.line(16, 9, 0);
        due.is("the LINE is in the way", x.fall(2, 1), 1);
        CityRoad nowhere = forFall(0);
        nowhere.person(NONE, 2, true, 1);
        nowhere.person(NONE, 2, true, 1);
        due.is("who lives nowhere walks to none", nowhere.fall(0, 1), 1);
        CityRoad work = forFall(2);
        work.person(NONE, 2, true, 1);
        Due.ruleOf(work, "K3", 0);
        due.is("nor from WORK", work.fall(0, 1), 1);
    }

    private static void fallNoWrapAround() {
        CityRoad x = plain();
        x.building(7, 0, 20, 1);
        x.person(0, NONE, true, 1);
        x.person(0, NONE, true, 1);
        x.building(8, 1, 0, 1);
        x.building(5, 1, 0, 1);
        x.building(55, 1, 0, 1);
        x.line(58, 59, 0);
        due.is("from 7 to 5, not to 8 or 55", x.fall(0, 1), 2);
        due.is("set()", x.set(), 1 << 1 | 1 << 3);
        x.cell(6, WATER, 0);
        x.cell(15, WATER, 0);
        due.is("7 stands alone", x.fall(0, 1), 3);
    }

    // ---- promise 39

    /** HOUSES on CELLS 0 to 7, with 0 to 7 PERSONS; a LINE over 0 and 8. */
    private static CityRoad forNoise() {
        CityRoad x = plain();
        for (int b = 0; b < 8; b++) {
            x.building(b, 0, 20, 1);
            for (int p = 0; p < b; p++) x.person(b, NONE, true, 1);
        }
        x.line(0, 8, 0);
        return x;
    }

    private static void noise(CityRoad x, int l, int houses, int people) {
        due.is("noise(" + l + ", 1)", x.noise(l, 1), houses);
        due.is("how many live there", x.asked(), people);
    }

    private static void noiseAboveN() {
        CityRoad x = forNoise();
        Due.rowOf(x, 1, 61, 60, 59, 62);
        noise(x, 0, 2, 3);
        Due.ruleOf(x, "N59", 0);
        noise(x, 0, 3, 4);
        Due.ruleOf(x, "N61", 0);
        noise(x, 0, 1, 3);
        Due.ruleOf(x, "N62", 0);
        noise(x, 0, 0, 0);
        Due.ruleOf(x, "N9999", 0);
        Due.rowOf(x, 1, 9999, 10000);
        noise(x, 0, 1, 1);
        Due.ruleOf(x, "N0", 1);
        Due.rowOf(x, 1, 0, 1, -1, LEAST, MOST);
        noise(x, 0, 1, 4);
        x.later(1);
        noise(x, 0, 2, 5);
    }

    private static void noiseBeyondItsEnd() {
        CityRoad x = forNoise();
        Due.ruleOf(x, "N0", 0);
        x.row(1, 0);
        noise(x, 0, 0, 0);
        Due.rowOf(x, 1, 1);
        noise(x, 0, 1, 0);
        Due.rowOf(x, 1, 1, 1, 1, 1, 1, 1, 1);
        noise(x, 0, 7, 21);
        Due.rowOf(x, 1, 1, 1, 1, 1, 1, 1, 1, 1);
        noise(x, 0, 8, 28);
        Due.rowOf(x, 1, 0, 0, 0, 0, 0, 0, 0, 1);
        noise(x, 0, 1, 7);
        x.row(1, 7);
        noise(x, 0, 0, 0);
    }

    private static void noiseFarthest() {
        CityRoad x = plain();
        x.building(63, 0, 1, 1);
        x.building(7, 0, 1, 1);
        x.building(8, 0, 1, 1);
        x.line(1, 2, 0);
        x.ramp(0, 0);
        Due.ruleOf(x, "N0", 0);
        x.row(1, 15);
        x.lay(1, 14, 1);
        due.is("14 STEPS", x.noise(1, 1), 1);
        x.row(1, 14);
        due.is("beyond its end", x.noise(1, 1), 0);
        x.row(1, 40);
        for (int i = 15; i < 40; i++) x.lay(1, i, 1);
        due.is("nothing is 15 STEPS off", x.noise(1, 1), 0);
        x.row(1, 2);
        x.lay(1, 1, 1);
        x.ramp(0, 10);
        x.ramp(2, 11);
        due.is("8 is one STEP from 0, 7 is not", x.noise(1, 1), 1);
        x.row(1, 8);
        x.lay(1, 7, 1);
        due.is("7 is seven STEPS from 0", x.noise(1, 1), 1);
        due.is("the fewest STEPS, to the nearest CELL", x.noise(0, 1), 0);
    }

    private static void noiseOrder() {
        CityRoad x = withAllKinds();
        edge.refused("BAD: the ROW, ahead of UNLIKE", x, y -> y.noise(2, 6), BAD);
        edge.refused("BAD: the MARK, ahead of NOTHING", x, y -> y.noise(6, 1), BAD);
        edge.finds("UNLIKE ahead of NOTHING", x, y -> y.noise(2, 1), UNLIKE);
        edge.finds("NOTHING", x, y -> y.noise(0, 1), NOTHING);
        Due.rowOf(x, 1, 100, 100, 100);
        due.is("no HOUSE that STANDS", x.noise(0, 1), 0);
        x.building(1, 1, 0, 1);
        x.building(8, 2, 0, 1);
        due.is("a SHOP, a CHURCH", x.noise(0, 1), 0);
        x.building(0, 0, 0, 1);
        due.is("an empty HOUSE", x.noise(0, 1), 1);
    }

    // ---- promise 40

    private static void parkNoMoreThanP() {
        CityRoad x = plain();
        x.line(0, 7, 0);
        for (int n = 0; n <= 8; n++) {
            if (n > 0) x.cell(n - 1, 2, 0);
            due.is("park(0) of " + n, x.park(0), n <= 3 ? 1 : 0);
            due.is("by asked()", x.asked(), n);
        }
        int[][] rules = {{0, 0}, {7, 0}, {8, 1}, {9, 1}, {9999, 1}};
        for (int[] one : rules) {
            Due.ruleOf(x, "P" + one[0], 0);
            due.is("8 by P " + one[0], x.park(0), one[1]);
        }
        Due.ruleOf(x, "P0", 0);
        for (int c = 0; c < 8; c++) x.cell(c, c % 2 == 0 ? 1 : 3, 0);
        x.cell(8, 2, 0);
        due.is("0 by P 0, one beside it", x.park(0), 1);
        x.cell(0, WATER, 0);
        due.is("WATER since", x.park(0), 1);
        x.ramp(0, 8);
        due.is("of a RAMP: 1 by P 0", x.park(1), 0);
    }

    // ---- promise 41

    /** One who could come, a LINE (0), and a HEARING (1) so many days ahead. */
    private static CityRoad withHearing(String rule, int days) {
        CityRoad x = plain();
        x.building(60, 0, 1, 1);
        x.person(0, NONE, true, 1);
        x.later(100);
        if (!rule.isEmpty()) Due.ruleOf(x, rule, 0);
        x.line(0, 1, 0);
        x.hearing(0, 60, 0, 100 + days);
        return x;
    }

    private static void hearingVoidByDays() {
        due.is("7 days by H 7", withHearing("", 7).isVoid(1), 0);
        due.is("6 days by H 7", withHearing("", 6).isVoid(1), 1);
        due.is("0 days by H 7", withHearing("", 0).isVoid(1), 1);
        due.is("0 days by H 0", withHearing("H0", 0).isVoid(1), 0);
        due.is("0 days by H 1", withHearing("H1", 0).isVoid(1), 1);
        due.is("1 day by H 1", withHearing("H1", 1).isVoid(1), 0);
        due.is("899 days by H 899", withHearing("H899", 899).isVoid(1), 0);
        due.is("899 days by H 900", withHearing("H900", 899).isVoid(1), 1);
        due.is("by H 9999", withHearing("H9999", 899).isVoid(1), 1);
        CityRoad x = withHearing("", 6);
        x.later(1);
        Due.ruleOf(x, "H6", 0);
        due.is("RULES told on a later day", x.isVoid(1), 1);
        CityRoad y = withHearing("", 7);
        y.later(1);
        Due.ruleOf(y, "H8", 0);
        due.is("nor do they make it VOID", y.isVoid(1), 0);
        y.hearing(0, 60, 0, 108);
        due.is("but the next one", y.isVoid(2), 1);
        CityRoad z = plain();
        z.building(60, 0, 1, 1);
        z.person(0, NONE, true, 1);
        z.line(0, 1, 0);
        Due.ruleOf(z, "H3", 1);
        z.hearing(0, 60, 0, 3);
        due.is("RULES in force from the day behind its call", z.isVoid(1), 1);
        z.later(1);
        z.hearing(0, 60, 0, 4);
        due.is("from the day of its call", z.isVoid(2), 0);
    }

    private static void hearingVoidByAllWhoCouldCome() {
        CityRoad x = plain();
        x.building(0, 0, 1, 1);
        x.line(0, 1, 0);
        x.hearing(0, 7, 12, 100);
        due.is("nobody", x.isVoid(1), 1);
        x.person(NONE, NONE, true, 1);
        due.is("one with no HOME", x.isVoid(1), 1);
        x.person(0, NONE, false, 1);
        due.is("one who has too far to go", x.isVoid(1), 1);
        x.hearing(0, 6, 12, 100);
        due.is("one who has not", x.isVoid(2), 0);
        x.show(0);
        x.take(0, 0);
        due.is("no HOME now", x.isVoid(2), 1);
        x.building(8, 0, 1, 1);
        x.moved(3, 1, 1);
        due.is("a HOME again, too far", x.isVoid(2), 1);
        x.hearing(0, 5, 12, 100);
        due.is("a HOME again", x.isVoid(5), 0);
    }

    /** A TAKING on day 100 of BUILDING 1, of a LINE (0) with a HEARING (1) called for that day and so many more. */
    private static CityRoad withTaking(int more) {
        CityRoad x = plain();
        x.building(60, 0, 1, 1);
        x.building(0, 0, 1, 1);
        x.person(0, NONE, true, 1);
        x.line(0, 1, 0);
        x.show(0);
        x.hearing(0, 60, 0, 100 + more);
        x.later(100);
        x.take(1, 0);
        return x;
    }

    private static void takingVoidByDays() {
        due.is("a HEARING held the day ahead", withTaking(-1).isVoid(2), 0);
        due.is("on its day", withTaking(0).isVoid(2), 0);
        due.is("the day behind", withTaking(1).isVoid(2), 1);
        CityRoad x = withTaking(1);
        x.later(1);
        due.is("though it was held by now", x.isVoid(2), 1);
        due.is("a TAKING that is VOID", x.owed(), 1);
        due.is("and one that is not", withTaking(0).owed(), 0);
    }

    private static void takingVoidByItsLine() {
        CityRoad x = plain();
        x.building(60, 0, 1, 1);
        x.building(0, 0, 1, 1);
        x.building(8, 0, 1, 1);
        x.person(0, NONE, true, 1);
        x.line(0, 1, 0);
        x.ramp(0, 8);
        x.show(0);
        x.show(1);
        x.hearing(0, 60, 0, 7);
        x.later(7);
        x.take(1, 0);
        x.take(2, 1);
        due.is("of its LINE", x.isVoid(3), 0);
        due.is("a RAMP has its own", x.isVoid(4), 1);
        due.is("one is VOID", x.owed(), 1);
        CityRoad none = plain();
        none.building(0, 0, 1, 1);
        none.line(0, 1, 0);
        none.show(0);
        none.take(0, 0);
        due.is("no HEARING at all", none.isVoid(1), 1);
        CityRoad two = withTaking(0);
        Due.ruleOf(two, "H0", 0);
        two.hearing(0, 60, 0, 100);
        due.is("one VOID, or one more, does not matter", two.isVoid(2), 0);
    }

    // ---- promises 42, 43

    private static void owedOfNone() {
        CityRoad x = new CityRoad();
        due.is("coins() at first", x.coins(), 0);
        due.is("owed() of none", x.owed(), 0);
        due.is("coins()", x.coins(), 0);
    }

    private static void owedOfTheGreatest() {
        CityRoad x = plain();
        x.line(0, 7, 0);
        x.line(8, 15, 0);
        for (int c = 0; c < 16; c++) x.building(c, 0, 2, 100000);
        x.building(60, 0, 1, 1);
        x.person(0, NONE, true, 1);
        Due.ruleOf(x, "T9999 M9999", 0);
        x.show(0);
        x.show(1);
        for (int b = 0; b < 8; b++) x.take(b, 0);
        for (int b = 8; b < 16; b++) x.take(b, 1);
        due.is("16 TAKINGS", x.count(5), 18);
        x.moved(2, 0, 16);
        due.is("all are VOID", x.owed(), 16);
        due.is("more than there are ints", x.coins(), 16L * 9999000 + 9999);
    }

    private static void coinsOfTheLatest() {
        CityRoad x = withAllKinds();
        due.is("owed()", x.owed(), 1);
        due.is("coins()", x.coins(), 550);
        edge.finds("grants() refused", x, y -> y.grants(0, 0), UNLIKE);
        edge.refused("grants() refused", x, y -> y.grants(6, 0), BAD);
        x.later(9);
        due.is("too early to be late", x.grants(2, 0), 1);
        due.is("coins() of grants()", x.coins(), 2);
        x.owed();
        x.later(1);
        due.is("too late", x.grants(2, 0), 0);
        due.is("coins() of nothing", x.coins(), 0);
        x.owed();
        due.is("coins() of owed()", x.coins(), 550);
    }
}
