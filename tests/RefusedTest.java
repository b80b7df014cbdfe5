import java.util.ArrayList;
import java.util.List;
import java.util.function.Supplier;
import java.util.function.ToIntFunction;

/**
 * What is refused changes nothing but finding(), findings(): of two objects made alike one is asked what is
 * refused; whatever both are asked then, they answer alike, also by what digest() does not tell (BUYS, who
 * HEARD, the items of RULES, tellings by days, the latest acts()). Each refusal is one of those that a
 * promise names, and where two fit it is the first of them.
 */
public final class RefusedTest {
    private static final int BAD = Edge.BAD, FULL = Edge.FULL, FINDING = Edge.FINDING, STATE = Edge.STATE, NONE = Edge.NONE;
    private static final int NOTHING = Edge.NOTHING, BEYOND = Edge.BEYOND, UNLIKE = Edge.UNLIKE, NOUGHT = Edge.NOUGHT, SIZE = Edge.SIZE;
    private static final Due due = new Due("RefusedTest");
    private static Supplier<CityRoad> made = RefusedTest::town;
    private static int cases = 0;

    public static void main(String[] args) {
        theTown();
        rowsAndTexts();
        daysAndCells();
        buildings();
        persons();
        rules();
        lines();
        takings();
        grantsAndHearings();
        marks();
        dealings();
        acts();
        stopsAndJudges();
        told();
        due.is("cases", cases > 200 ? 1 : 0, 1);
        due.end();
    }

    /**
     * ROWS: 0 costs (and weights), 1 noise, 2 acts, 3 with three numbers of which one is none, 4 with four of which
     * one is none, 5 missing. TEXTS: 0 RULES, 1 with a FAULT, 2 missing, 3 empty. BUILDINGS: 0 a HOUSE with ROOMS,
     * 1 one full, 2 a SHOP, 3 a CHURCH, 4 a HOUSE with no ROOMS, 5 one with ROOMS, 6 TAKEN. PERSONS: 0 and 1 lived
     * in 6, 0 lives in 5 again, 2 in 0, 3 in 1, 4 nowhere. MARKS: 0 a LINE over 8 to 15, SHOWN; 1 the TAKING of 6;
     * 2 PERSON 0 MOVED; 3 a GRANT; 4 a HEARING; 5 a RAMP; 6 a LINE that is not SHOWN. CELL 63 is WATER; 7 is cut off.
     */
    private static CityRoad town() {
        CityRoad x = new CityRoad();
        Due.rowOf(x, 0, 1, 2, 3, 4);
        Due.rowOf(x, 1, 90, 70, 65, 10);
        Due.rowOf(x, 2, 5, NONE, NONE, 3, 0, NONE, 2, NONE, NONE);
        Due.rowOf(x, 3, 5, NONE, -1);
        Due.rowOf(x, 4, 1, 2, 1001, 4);
        Due.textOf(x, 0, "S12 F30 H3");
        Due.textOf(x, 1, "S1X");
        x.text(3, 0);
        x.cell(63, 4, 0);
        x.cell(7, 0, 99);
        x.cell(11, 2, 0);
        x.building(0, 0, 3, 90);
        x.building(17, 0, 1, 80);
        x.building(20, 1, 0, 70);
        x.building(30, 2, 0, 60);
        x.building(40, 0, 0, 50);
        x.building(45, 0, 2, 40);
        x.building(10, 0, 2, 95);
        x.person(6, 9, true, 1);
        x.person(6, NONE, false, 1);
        x.person(0, 30, false, 2);
        x.person(1, 8, true, 2);
        x.person(NONE, NONE, true, 9);
        x.line(8, 15, 0);
        x.buy(6, 4);
        x.hear(4, 0);
        x.later(3);
        x.rule(0, 2);
        x.worth(0, 85);
        x.show(0);
        x.take(6, 0);
        x.moved(1, 0, 5);
        x.grant(5, 50);
        x.hearing(0, 20, 18, 20);
        x.ramp(0, 16);
        x.line(32, 39, 0);
        x.buy(0, 2);
        x.hear(2, 6);
        x.acts(2);
        x.act(2);
        x.owed();
        x.over(0);
        return x;
    }

    private static CityRoad full(ToIntFunction<CityRoad> one) {
        CityRoad x = town();
        for (int i = 0; i < 100 && one.applyAsInt(x) >= 0; i++);
        return x;
    }

    private static CityRoad fullMarks() {
        return full(x -> x.grant(1, 1));
    }

    private static CityRoad fullTellings() {
        return full(x -> x.worth(2, 1 + x.count(7)));
    }

    private static CityRoad fullBuildings() {
        CityRoad x = town();
        for (int c = 31; x.count(1) < 31; c++) x.building(c, 0, 1, 1);
        return x;
    }

    private static CityRoad fullPersons() {
        return full(x -> x.person(NONE, NONE, true, 1));
    }

    private static CityRoad fullRules() {
        return full(x -> x.rule(3, 1));
    }

    private static CityRoad fullBuys() {
        return full(x -> x.buy(0, 1));
    }

    private static CityRoad fullHeard() {
        CityRoad x = fullPersons();
        for (int p = 0; p < 40; p++) x.hear(p, 0);
        for (int p = 0; p < 19; p++) x.hear(39 - p, 6);
        return x;
    }

    /** All that can be asked for, then calls that change what is there: their answers hang on what was left. */
    private static List<Long> answers(CityRoad x) {
        List<Long> all = new ArrayList<>();
        tell(all, x, x.asked(), x.coins(), x.set(), x.digest());
        for (int what = 0; what <= 9; what++) tell(all, x, x.count(what));
        for (int b = 0; b < 7; b++) tell(all, x, x.value(b, 0), x.value(b, 2), x.value(b, 3), x.value(b, 999));
        for (int what = 0; what < 8; what++) tell(all, x, x.force(what, 3, 3), x.why(what, 999, 999));
        for (int m = 0; m < 8; m++) tell(all, x, x.mark(m, 3), x.mark(m, 4), x.mark(m, 5), x.mark(m, 6), x.isVoid(m));
        for (int l = 0; l <= 6; l += 6) {
            tell(all, x, x.early(l), x.whither(l), x.fall(l, 2), x.noise(l, 1), x.park(l), x.judge(l, 0, 1));
            tell(all, x, x.grants(3, l), x.shown(l), x.cellOf(l, 3));
        }
        for (int i = 0; i < 4; i++) tell(all, x, x.act(i));
        for (int t = 0; t < 4; t++) tell(all, x, x.fault(t));
        tell(all, x, x.owed(), x.stop(0, 62), x.stop(1, 9), x.best(0, 1), x.mean(0));
        for (int p = 0; p < 5; p++) tell(all, x, x.hear(p, 0), x.hear(p, 6), x.hear(p, 5));
        tell(all, x, x.buy(2, 3), x.early(6), x.later(1), x.show(6), x.early(6), x.moved(1, 1, 0), x.take(0, 0));
        tell(all, x, x.line(24, 31, 0), x.ramp(0, 1), x.hearing(6, 3, 8, 9), x.grant(2, 2), x.worth(3, 7), x.rule(0, 4));
        tell(all, x, x.building(50, 0, 1, 5), x.person(0, 1, true, 2), x.cell(51, 4, 2), x.acts(2), x.act(1), x.digest());
        return all;
    }

    private static void tell(List<Long> all, CityRoad x, long... answers) {
        for (long answer : answers) all.add(answer);
        all.add((long) x.asked());
        all.add(x.set());
        all.add(x.coins());
    }

    private static void refused(String call, ToIntFunction<CityRoad> asks, int want) {
        check(call, asks, want, 0);
    }

    private static void finds(String call, ToIntFunction<CityRoad> asks, int finding) {
        check(call, asks, FINDING, finding);
    }

    private static void check(String call, ToIntFunction<CityRoad> asks, int want, int finding) {
        cases++;
        CityRoad x = made.get();
        CityRoad y = made.get();
        due.is(call, asks.applyAsInt(x), want);
        due.is(call + ": finding()", x.finding(), finding == 0 ? y.finding() : finding);
        for (int f = 1; f <= 5; f++) due.is(call + ": findings(" + f + ")", x.findings(f), y.findings(f) + (f == finding ? 1 : 0));
        List<Long> one = answers(x);
        List<Long> other = answers(y);
        for (int i = 0; i < one.size(); i++) {
            if (!one.get(i).equals(other.get(i))) due.is(call + " changes answer " + i, one.get(i), other.get(i));
        }
    }

    private static void theTown() {
        CityRoad x = town();
        int[] counts = {3, 6, 5, 2, 1, 7, 2, 13, 5, 3};
        for (int what = 0; what <= 9; what++) due.is("the town: count(" + what + ")", x.count(what), counts[what]);
        int[] kinds = {1, 3, 4, 5, 6, 2, 1};
        for (int m = 0; m < 7; m++) due.tells("the town: MARK " + m, x, x.told(m, 0), kinds[m]);
        due.is("the town: its LINE", x.over(0), 8);
        due.is("the town: no other refusals than those on purpose", x.finding(), 0);
        due.is("full: MARKS", fullMarks().count(5), 24);
        due.is("full: tellings", fullTellings().count(7), 100);
        due.is("full: BUILDINGS", fullBuildings().count(1), 31);
        due.is("full: PERSONS", fullPersons().count(2), 40);
        due.is("full: RULES", fullRules().count(4), 16);
        due.is("full: BUYS", fullBuys().count(6), 40);
        due.is("full: HEARD", fullHeard().hear(0, 5), FULL);
    }

    private static void rowsAndTexts() {
        made = RefusedTest::town;
        refused("row(-1, 1)", x -> x.row(-1, 1), BAD);
        refused("row(6, -1)", x -> x.row(6, -1), BAD);
        refused("row(0, 41)", x -> x.row(0, 41), BAD);
        finds("row(0, -1)", x -> x.row(0, -1), SIZE);
        refused("lay(6, 0, 1)", x -> x.lay(6, 0, 1), BAD);
        finds("lay(5, 0, 1)", x -> x.lay(5, 0, 1), NOTHING);
        finds("lay(0, 4, 1)", x -> x.lay(0, 4, 1), BEYOND);
        finds("lay(0, -1, 1)", x -> x.lay(0, -1, 1), BEYOND);
        refused("tear(-1)", x -> x.tear(-1), BAD);
        finds("tear(5)", x -> x.tear(5), NOTHING);
        refused("copy(6, ..)", x -> x.copy(6, 0, 0, 0, -1), BAD);
        refused("copy(.., -1, ..)", x -> x.copy(0, 0, -1, 0, 1), BAD);
        finds("copy(.., -1)", x -> x.copy(5, 0, 0, 0, -1), SIZE);
        finds("copy(5, ..)", x -> x.copy(5, 0, 0, 9, 1), NOTHING);
        finds("copy(.., 5, ..)", x -> x.copy(0, 9, 5, 0, 1), NOTHING);
        finds("copy(0, 1, 1, 0, 4)", x -> x.copy(0, 1, 1, 0, 4), BEYOND);
        finds("copy(2, 0, 1, 1, 4)", x -> x.copy(2, 0, 1, 1, 4), BEYOND);
        finds("copy(0, 0, 1, 5, 0)", x -> x.copy(0, 0, 1, 5, 0), BEYOND);
        refused("text(4, -1)", x -> x.text(4, -1), BAD);
        refused("text(0, 41)", x -> x.text(0, 41), BAD);
        finds("text(0, -1)", x -> x.text(0, -1), SIZE);
        refused("put(4, 0, 1)", x -> x.put(4, 0, 1), BAD);
        finds("put(2, 0, 1)", x -> x.put(2, 0, 1), NOTHING);
        finds("put(3, 0, 1)", x -> x.put(3, 0, 1), BEYOND);
        finds("put(0, 10, 1)", x -> x.put(0, 10, 1), BEYOND);
        refused("fault(4)", x -> x.fault(4), BAD);
        finds("fault(2)", x -> x.fault(2), NOTHING);
    }

    private static void daysAndCells() {
        made = RefusedTest::town;
        refused("later(-1)", x -> x.later(-1), BAD);
        refused("later(997)", x -> x.later(997), BAD);
        refused("later(most)", x -> x.later(Edge.MOST), BAD);
        refused("cell(64, ..)", x -> x.cell(64, 0, 0), BAD);
        refused("cell(.., 5, ..)", x -> x.cell(5, 5, 5), BAD);
        refused("cell(.., 100)", x -> x.cell(5, 1, 100), BAD);
        refused("cell(0, 4, 5): a BUILDING STANDS there", x -> x.cell(0, 4, 5), STATE);
        refused("cell(0, 4, 100): BAD ahead of STATE", x -> x.cell(0, 4, 100), BAD);
    }

    private static void buildings() {
        made = RefusedTest::town;
        refused("building(-1, ..)", x -> x.building(-1, 0, 0, 1), BAD);
        refused("building(.., 3, ..)", x -> x.building(50, 3, 0, 1), BAD);
        refused("building(.., 21, ..)", x -> x.building(50, 0, 21, 1), BAD);
        refused("building(.., 0)", x -> x.building(50, 0, 0, 0), BAD);
        refused("building on WATER", x -> x.building(63, 0, 0, 1), STATE);
        refused("building where one STANDS", x -> x.building(0, 0, 0, 1), STATE);
        refused("worth(7, ..)", x -> x.worth(7, 1), BAD);
        refused("worth(.., 100001)", x -> x.worth(0, 100001), BAD);
        refused("worth of one TAKEN", x -> x.worth(6, 1), STATE);
        refused("value(7, ..)", x -> x.value(7, 0), BAD);
        refused("value(.., 1000)", x -> x.value(0, 1000), BAD);
        refused("house(7, ..)", x -> x.house(7, 0), BAD);
        refused("house(.., 6)", x -> x.house(0, 6), BAD);
        refused("mean(3)", x -> x.mean(3), BAD);
        made = RefusedTest::fullBuildings;
        refused("the 33rd building", x -> x.building(1, 0, 0, 1), FULL);
        refused("FULL ahead of STATE", x -> x.building(63, 0, 0, 1), FULL);
        refused("BAD ahead of FULL", x -> x.building(1, 0, 0, 0), BAD);
        made = RefusedTest::fullTellings;
        refused("building: tellings", x -> x.building(1, 0, 0, 1), FULL);
        refused("building: FULL ahead of STATE", x -> x.building(0, 0, 0, 1), FULL);
        refused("worth: tellings", x -> x.worth(0, 1), FULL);
        refused("worth: STATE ahead of FULL", x -> x.worth(6, 1), STATE);
        refused("worth: BAD ahead of STATE", x -> x.worth(6, 0), BAD);
        refused("show: tellings", x -> x.show(6), FULL);
        refused("show: STATE ahead of FULL", x -> x.show(0), STATE);
        made = () -> {
            CityRoad x = town();
            x.line(29, 31, 0);
            x.show(7);
            x.take(3, 7);
            return x;
        };
        finds("mean(2): the only CHURCH is TAKEN", x -> x.mean(2), NOUGHT);
    }

    private static void persons() {
        made = RefusedTest::town;
        refused("person(7, ..)", x -> x.person(7, 0, true, 0), BAD);
        refused("person(-1, ..)", x -> x.person(-1, 0, true, 0), BAD);
        refused("person(.., 64, ..)", x -> x.person(0, 64, true, 0), BAD);
        refused("person(.., 10)", x -> x.person(0, 0, true, 10), BAD);
        refused("person: no HOUSE", x -> x.person(2, 0, true, 0), STATE);
        refused("person: TAKEN", x -> x.person(6, 0, true, 0), STATE);
        refused("person: no ROOM left", x -> x.person(1, 0, true, 0), STATE);
        refused("person: no ROOMS", x -> x.person(4, 0, true, 0), STATE);
        refused("who(5, ..)", x -> x.who(5, 0), BAD);
        refused("who(.., 4)", x -> x.who(0, 4), BAD);
        made = RefusedTest::fullPersons;
        refused("the 41st person", x -> x.person(0, 0, true, 0), FULL);
        refused("FULL ahead of STATE", x -> x.person(6, 0, true, 0), FULL);
        refused("BAD ahead of FULL", x -> x.person(7, 0, true, 0), BAD);
    }

    private static void rules() {
        made = RefusedTest::town;
        refused("rule(4, ..)", x -> x.rule(4, 0), BAD);
        refused("rule(.., 1000)", x -> x.rule(0, 1000), BAD);
        finds("rule(2, 0): missing", x -> x.rule(2, 0), NOTHING);
        refused("rule(1, 0): a FAULT", x -> x.rule(1, 0), STATE);
        refused("force(8, ..)", x -> x.force(8, 0, 0), BAD);
        refused("force(.., 1000, ..)", x -> x.force(0, 1000, 0), BAD);
        refused("force(.., -1)", x -> x.force(0, 0, -1), BAD);
        refused("why(-1, ..)", x -> x.why(-1, 0, 0), BAD);
        refused("why(.., -1, ..)", x -> x.why(0, -1, 0), BAD);
        refused("why(.., 1000)", x -> x.why(0, 0, 1000), BAD);
        made = RefusedTest::fullRules;
        refused("the 17th rule", x -> x.rule(0, 0), FULL);
        refused("FULL ahead of NOTHING", x -> x.rule(2, 0), FULL);
        refused("FULL ahead of STATE", x -> x.rule(1, 0), FULL);
        refused("BAD ahead of FULL", x -> x.rule(0, -1), BAD);
    }

    private static void lines() {
        made = RefusedTest::town;
        refused("line(64, ..)", x -> x.line(64, 0, 0), BAD);
        refused("line(.., -1, ..)", x -> x.line(0, -1, 0), BAD);
        refused("line(5, 5, 0)", x -> x.line(5, 5, 0), BAD);
        refused("line(.., 6)", x -> x.line(0, 1, 6), BAD);
        finds("line: the ROW is missing, ahead of STATE", x -> x.line(0, 63, 5), NOTHING);
        finds("line: not four, ahead of UNLIKE", x -> x.line(0, 63, 3), SIZE);
        finds("line: a cost, ahead of STATE", x -> x.line(0, 63, 4), UNLIKE);
        refused("line: WATER at an end, ahead of no way", x -> x.line(7, 63, 0), STATE);
        finds("line: no way", x -> x.line(0, 7, 0), NOTHING);
        refused("ramp(7, ..)", x -> x.ramp(7, 0), BAD);
        refused("ramp(.., 64)", x -> x.ramp(0, 64), BAD);
        finds("ramp of a TAKING, ahead of STATE", x -> x.ramp(1, 63), UNLIKE);
        refused("ramp on the LINE", x -> x.ramp(0, 8), STATE);
        refused("ramp not beside it", x -> x.ramp(0, 50), STATE);
        refused("ramp on WATER", x -> x.ramp(6, 63), STATE);
        refused("cellOf(7, 0)", x -> x.cellOf(7, 0), BAD);
        finds("cellOf(1, 0)", x -> x.cellOf(1, 0), UNLIKE);
        refused("show(7)", x -> x.show(7), BAD);
        finds("show(3)", x -> x.show(3), UNLIKE);
        refused("show(0) again", x -> x.show(0), STATE);
        made = RefusedTest::fullMarks;
        refused("line: FULL ahead of NOTHING", x -> x.line(0, 1, 5), FULL);
        refused("line: BAD ahead of FULL", x -> x.line(1, 1, 0), BAD);
        refused("ramp: FULL ahead of UNLIKE", x -> x.ramp(1, 0), FULL);
        refused("ramp: BAD ahead of FULL", x -> x.ramp(24, 0), BAD);
    }

    private static void takings() {
        made = RefusedTest::town;
        refused("take(7, ..)", x -> x.take(7, 0), BAD);
        refused("take(.., 7)", x -> x.take(0, 7), BAD);
        finds("take by a GRANT, ahead of STATE", x -> x.take(6, 3), UNLIKE);
        refused("take: it is not SHOWN", x -> x.take(0, 6), STATE);
        refused("take: TAKEN", x -> x.take(6, 0), STATE);
        refused("take: not on its CELLS", x -> x.take(0, 0), STATE);
        refused("moved(7, ..)", x -> x.moved(7, 1, 0), BAD);
        refused("moved(.., 5, ..)", x -> x.moved(1, 5, 0), BAD);
        refused("moved(.., 7)", x -> x.moved(1, 1, 7), BAD);
        finds("moved by a LINE", x -> x.moved(0, 4, 0), UNLIKE);
        finds("moved by a MOVED one, ahead of STATE", x -> x.moved(2, 0, 0), UNLIKE);
        refused("moved: did not live there", x -> x.moved(1, 4, 0), STATE);
        refused("moved: lives somewhere again", x -> x.moved(1, 0, 0), STATE);
        refused("moved: no HOUSE", x -> x.moved(1, 1, 3), STATE);
        refused("moved: TAKEN", x -> x.moved(1, 1, 6), STATE);
        refused("moved: no ROOM left", x -> x.moved(1, 1, 1), STATE);
        made = RefusedTest::fullMarks;
        refused("take: FULL ahead of UNLIKE", x -> x.take(0, 3), FULL);
        refused("take: BAD ahead of FULL", x -> x.take(7, 0), BAD);
        refused("moved: FULL", x -> x.moved(1, 1, 0), FULL);
        refused("moved: FULL ahead of UNLIKE", x -> x.moved(0, 1, 0), FULL);
        refused("moved: BAD ahead of FULL", x -> x.moved(1, 5, 0), BAD);
    }

    private static void grantsAndHearings() {
        made = RefusedTest::town;
        refused("grant(0, 1)", x -> x.grant(0, 1), BAD);
        refused("grant(11, 1)", x -> x.grant(11, 1), BAD);
        refused("grant(1, -1)", x -> x.grant(1, -1), BAD);
        refused("grant(1, 1000)", x -> x.grant(1, 1000), BAD);
        refused("hearing(7, ..)", x -> x.hearing(7, 0, 0, 9), BAD);
        refused("hearing(.., 64, ..)", x -> x.hearing(0, 64, 0, 9), BAD);
        refused("hearing(.., 24, 9)", x -> x.hearing(0, 0, 24, 9), BAD);
        refused("hearing(.., 1000)", x -> x.hearing(0, 0, 0, 1000), BAD);
        finds("hearing of a TAKING, ahead of STATE", x -> x.hearing(1, 0, 0, 2), UNLIKE);
        refused("hearing on a day gone by", x -> x.hearing(0, 0, 0, 2), STATE);
        made = RefusedTest::fullMarks;
        refused("grant: FULL", x -> x.grant(1, 1), FULL);
        refused("grant: BAD ahead of FULL", x -> x.grant(1, 1000), BAD);
        refused("hearing: FULL ahead of UNLIKE", x -> x.hearing(1, 0, 0, 9), FULL);
        refused("hearing: FULL ahead of STATE", x -> x.hearing(0, 0, 0, 2), FULL);
        refused("hearing: BAD ahead of FULL", x -> x.hearing(0, 0, -1, 9), BAD);
    }

    private static void marks() {
        made = RefusedTest::town;
        refused("told(7, 0)", x -> x.told(7, 0), BAD);
        refused("told(.., 3)", x -> x.told(0, 3), BAD);
        refused("mark(7, 1)", x -> x.mark(7, 1), BAD);
        refused("mark(0, 0)", x -> x.mark(0, 0), BAD);
        refused("mark(0, 7)", x -> x.mark(0, 7), BAD);
        finds("mark(0, 2)", x -> x.mark(0, 2), UNLIKE);
        finds("mark(1, 4)", x -> x.mark(1, 4), UNLIKE);
        finds("mark(2, 6)", x -> x.mark(2, 6), UNLIKE);
        refused("cost(7)", x -> x.cost(7), BAD);
        finds("cost(4)", x -> x.cost(4), UNLIKE);
        refused("shown(-1)", x -> x.shown(-1), BAD);
        finds("shown(3)", x -> x.shown(3), UNLIKE);
        refused("over(7)", x -> x.over(7), BAD);
        finds("over(2)", x -> x.over(2), UNLIKE);
    }

    private static void dealings() {
        made = RefusedTest::town;
        refused("buy(7, 0)", x -> x.buy(7, 0), BAD);
        refused("buy(0, 5)", x -> x.buy(0, 5), BAD);
        refused("buy: TAKEN", x -> x.buy(6, 0), STATE);
        refused("hear(5, 0)", x -> x.hear(5, 0), BAD);
        refused("hear(0, 7)", x -> x.hear(0, 7), BAD);
        finds("hear(0, 4)", x -> x.hear(0, 4), UNLIKE);
        refused("early(7)", x -> x.early(7), BAD);
        finds("early(1)", x -> x.early(1), UNLIKE);
        refused("whither(7)", x -> x.whither(7), BAD);
        finds("whither(2)", x -> x.whither(2), UNLIKE);
        refused("fall(7, 1)", x -> x.fall(7, 1), BAD);
        refused("fall(0, 21)", x -> x.fall(0, 21), BAD);
        refused("fall(1, -1): BAD ahead of UNLIKE", x -> x.fall(1, -1), BAD);
        finds("fall(1, 1)", x -> x.fall(1, 1), UNLIKE);
        refused("noise(7, 1)", x -> x.noise(7, 1), BAD);
        refused("noise(1, 6): BAD ahead of UNLIKE", x -> x.noise(1, 6), BAD);
        finds("noise(1, 5): UNLIKE ahead of NOTHING", x -> x.noise(1, 5), UNLIKE);
        finds("noise(0, 5)", x -> x.noise(0, 5), NOTHING);
        refused("park(7)", x -> x.park(7), BAD);
        finds("park(4)", x -> x.park(4), UNLIKE);
        refused("isVoid(7)", x -> x.isVoid(7), BAD);
        finds("isVoid(0)", x -> x.isVoid(0), UNLIKE);
        finds("isVoid(2)", x -> x.isVoid(2), UNLIKE);
        made = RefusedTest::fullBuys;
        refused("the 41st buy", x -> x.buy(0, 2), FULL);
        refused("buy: FULL ahead of STATE", x -> x.buy(6, 0), FULL);
        refused("buy: BAD ahead of FULL", x -> x.buy(7, 0), BAD);
        made = RefusedTest::fullHeard;
        refused("the 61st to hear", x -> x.hear(0, 6), FULL);
        finds("hear: UNLIKE ahead of FULL", x -> x.hear(0, 1), UNLIKE);
        refused("hear: BAD ahead of UNLIKE", x -> x.hear(40, 1), BAD);
    }

    private static void acts() {
        made = RefusedTest::town;
        refused("acts(6)", x -> x.acts(6), BAD);
        finds("acts(5)", x -> x.acts(5), NOTHING);
        finds("acts(1): not by threes", x -> x.acts(1), SIZE);
        finds("acts(3): a number that is none", x -> x.acts(3), UNLIKE);
        refused("grants(7, 0)", x -> x.grants(7, 0), BAD);
        refused("grants(3, 7)", x -> x.grants(3, 7), BAD);
        finds("grants(0, 0)", x -> x.grants(0, 0), UNLIKE);
        finds("grants(3, 3)", x -> x.grants(3, 3), UNLIKE);
        made = () -> {
            CityRoad x = town();
            Due.rowOf(x, 3, 5, NONE, NONE, 6, 2, NONE, 7, 1, NONE);
            Due.rowOf(x, 5);
            return x;
        };
        finds("acts(3): that wait for themselves", x -> x.acts(3), UNLIKE);
        finds("acts(5): none", x -> x.acts(5), SIZE);
    }

    private static void stopsAndJudges() {
        made = RefusedTest::town;
        refused("stop(64, 0)", x -> x.stop(64, 0), BAD);
        refused("stop(63, 63): BAD ahead of STATE", x -> x.stop(63, 63), BAD);
        refused("stop: WATER at the first end", x -> x.stop(63, 7), STATE);
        refused("stop: WATER at the other end, ahead of no way", x -> x.stop(7, 63), STATE);
        finds("stop: no way", x -> x.stop(0, 7), NOTHING);
        refused("judge(7, ..)", x -> x.judge(7, 0, 1), BAD);
        refused("judge(.., 6, ..): BAD ahead of UNLIKE", x -> x.judge(1, 6, 1), BAD);
        refused("judge(.., -1)", x -> x.judge(0, 0, -1), BAD);
        finds("judge(1, 5, 5): UNLIKE ahead of NOTHING", x -> x.judge(1, 5, 5), UNLIKE);
        finds("judge(0, 5, 1)", x -> x.judge(0, 5, 1), NOTHING);
        finds("judge(0, 3, 5): NOTHING ahead of SIZE", x -> x.judge(0, 3, 5), NOTHING);
        finds("judge(0, 3, 1): SIZE ahead of UNLIKE", x -> x.judge(0, 3, 1), SIZE);
        finds("judge(0, 4, 1)", x -> x.judge(0, 4, 1), UNLIKE);
        refused("best(6, 1)", x -> x.best(6, 1), BAD);
        refused("best(0, 6)", x -> x.best(0, 6), BAD);
        finds("best(5, 1)", x -> x.best(5, 1), NOTHING);
        finds("best(3, 5): NOTHING ahead of SIZE", x -> x.best(3, 5), NOTHING);
        finds("best(3, 1): SIZE ahead of UNLIKE", x -> x.best(3, 1), SIZE);
        finds("best(4, 1)", x -> x.best(4, 1), UNLIKE);
    }

    private static void told() {
        made = RefusedTest::town;
        refused("count(10)", x -> x.count(10), BAD);
        refused("count(-1)", x -> x.count(-1), BAD);
        refused("findings(0)", x -> x.findings(0), BAD);
        refused("findings(6)", x -> x.findings(6), BAD);
    }
}
