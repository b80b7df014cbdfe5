/** Promises 50 to 55, and that what is refused changes nothing but finding() and findings(). */
public final class ToldTest {
    private static final int BAD = CityRoad.BAD, STATE = CityRoad.STATE, NONE = CityRoad.NONE;
    private static final Due due = new Due("ToldTest");

    public static void main(String[] args) {
        asked();
        sets();
        counts();
        findings();
        digestOfNew();
        digest();
        refusals();
        due.end();
    }

    private static void asked(CityRoad x, String call, long got, int want) {
        due.is("asked() behind " + call + " (" + got + ")", x.asked(), want);
    }

    private static void asked() {
        CityRoad x = new CityRoad();
        Due.rowOf(x, 0, 7, 7, 7, 7);
        Due.rowOf(x, 1, 1, 1, 1, 1);
        Due.rowOf(x, 2, 100, 100);
        x.building(0, 0, 6, 500);
        x.building(63, 0, 6, 40);
        x.person(0, 62, false, 8);
        asked(x, "lay", x.lay(0, 0, 6), 7);
        asked(x, "house", x.house(0, 2), 6);
        asked(x, "who", x.who(0, 3), 8);
        asked(x, "mean", x.mean(0), 270);
        asked(x, "mean of none", x.mean(1), 270);
        x.line(0, 2, 0);
        x.show(0);
        asked(x, "show", 0, 270);
        asked(x, "whither", x.whither(0), 1);
        asked(x, "noise", x.noise(0, 2), 1);
        x.cell(1, 2, 0);
        x.cell(2, 2, 0);
        asked(x, "park", x.park(0), 2);
        asked(x, "judge", x.judge(0, 1, 2), (6 * 3 + 5) + 1 + 2 + 1);
        asked(x, "take", x.take(0, 0), 500);
        asked(x, "best", x.best(1, 2), 25);
        asked(x, "moved", x.moved(1, 0, 1), 50);
        asked(x, "told", x.told(2, 2), 1);
        x.grant(1, 33);
        asked(x, "grants", x.grants(3, 0), 33);
        asked(x, "act that is none", x.act(0), 33);
        Due.rowOf(x, 3, 4, NONE, NONE, 1, NONE, NONE);
        x.lay(3, 5, NONE);
        asked(x, "acts", x.acts(3), NONE);
        asked(x, "act", x.act(1), 3);
        asked(x, "act that is none", x.act(2), 3);
        asked(x, "digest", x.digest(), 3);
        asked(x, "asked", x.asked(), 3);
        asked(x, "refused", x.house(9, 0), 3);
    }

    private static void sets() {
        CityRoad x = new CityRoad();
        Due.rowOf(x, 0, 0, 0, 0, 0);
        x.building(2, 1, 0, 1);
        x.building(16, 1, 0, 1);
        x.building(9, 0, 0, 1);
        x.line(62, 63, 0);
        due.is("over(0)", x.over(0), 2);
        due.is("set()", x.set(), 3L << 62);
        due.is("fall(0, 1)", x.fall(0, 1), 2);
        due.is("set(): BUILDINGS", x.set(), 3);
        due.is("stop(1, 0)", x.stop(1, 0), NONE);
        due.is("set() stays", x.set(), 3);
        x.cell(1, 4, 0);
        x.cell(17, 4, 0);
        due.is("over(1)", x.over(1), BAD);
        due.is("set() stays", x.set(), 3);
        due.is("stop(0, 63)", x.stop(0, 63), 2);
        due.is("set(): CELLS", x.set(), 1L << 16 | 1L << 9);
        due.is("stop(0, 1)", x.stop(0, 1), STATE);
        due.is("set() stays", x.set(), 1L << 16 | 1L << 9);
    }

    private static void counts() {
        CityRoad x = new CityRoad();
        Due.rowOf(x, 0, 0, 0, 0, 0);
        x.row(3, 0);
        x.later(4);
        for (int c = 0; c < 5; c++) x.building(c, 0, 2, 100);
        x.worth(4, 50);
        for (int i = 0; i < 3; i++) x.person(i == 0 ? NONE : 0, NONE, false, 0);
        Due.ruleOf(x, "S1", 0);
        x.rule(3, 0);
        x.text(0, 0);
        x.line(0, 8, 0);
        x.show(0);
        x.take(0, 0);
        x.buy(1, 0);
        x.buy(2, 0);
        x.buy(1, 0);
        int[] want = {4, 4, 3, 3, 2, 2, 3, 5 + 1 + 3, 2, 2};
        for (int what = 0; what <= 9; what++) due.is("count(" + what + ")", x.count(what), want[what]);
        due.is("count(10)", x.count(10), BAD);
        due.is("count(-1)", x.count(-1), BAD);
        due.is("count(NONE)", x.count(NONE), BAD);
        x.moved(1, 1, 1);
        due.is("count(3)", x.count(3), 2);
    }

    private static void findings() {
        CityRoad x = new CityRoad();
        int[] all = new int[6];
        for (int i = 0; i < 40; i++) {
            int f = 1 + i * 7 % 5;
            if (f == 1) due.is("NOTHING", x.tear(1), -3);
            if (f == 2) {
                x.row(0, 0);
                due.is("BEYOND", x.lay(0, 0, 0), -3);
            }
            if (f == 3) {
                Due.rowOf(x, 2, 1, 1, 1);
                due.is("UNLIKE", x.acts(2), -3);
            }
            if (f == 4) due.is("NOUGHT", x.mean(0), -3);
            if (f == 5) due.is("SIZE", x.row(0, -2), -3);
            all[f]++;
            due.is("finding()", x.finding(), f);
            for (int k = 1; k <= 5; k++) due.is("findings(" + k + ")", x.findings(k), all[k]);
        }
        due.is("findings(0)", x.findings(0), BAD);
        due.is("findings(6)", x.findings(6), BAD);
        due.is("findings(-3)", x.findings(-3), BAD);
        due.is("finding() stays", x.finding(), 1 + 39 * 7 % 5);
    }

    private static void digestOfNew() {
        long h = 17;
        for (int i = 0; i < 10 + 128; i++) h *= 31;
        for (int i = 0; i < 10; i++) h = 31 * h - 1;
        due.is("digest() of a new object", new CityRoad().digest(), h);
    }

    private static long add(long h, int... values) {
        for (int v : values) h = 31 * h + v;
        return h;
    }

    private static void digest() {
        CityRoad x = new CityRoad();
        Due.rowOf(x, 2, -5, 1000, 0, 6);
        x.text(1, 2);
        x.put(1, 0, -7);
        x.later(9);
        x.cell(63, 3, 99);
        x.building(0, 0, 4, 500);
        x.building(20, 1, 5, 600);
        x.person(0, 11, true, 3);
        x.person(NONE, NONE, false, 9);
        Due.rowOf(x, 0, 1, 1, 1, 1);
        x.line(0, 9, 0);
        x.show(0);
        x.ramp(0, 8);
        x.buy(0, 1);
        x.take(0, 0);
        Due.ruleOf(x, "S3", 33);
        x.later(1);
        x.grant(2, 2);
        x.hearing(0, 0, 0, 10);
        x.tear(0);
        x.tear(2);
        Due.rowOf(x, 2, -5, 1000);
        long h = add(17, 10, 1, 2, 2, 1, 5, 1, 3, 1, 2);
        for (int c = 0; c < 63; c++) h = add(h, 0, 0);
        h = add(h, 3, 99);
        h = add(h, 0, 0, 4, 0, 1, 1, 400);
        h = add(h, 20, 1, 5, 0, 0, NONE, 600);
        h = add(h, NONE, 11, 1, 3, NONE, NONE, 0, 9);
        h = add(h, 9, 33);
        h = add(h, 1, 9, NONE, 1 + 5 + 1 + 1 + 5, 9, 0, 1, 9);
        h = add(h, 2, 9, 0, 0, NONE, 8);
        h = add(h, 3, 9, 0, 5, 10, NONE, 6, 10, 0);
        h = add(h, -1, -1, 2, -5, 1000, -1, -1, -1);
        h = add(h, -1, 2, -7, 32, -1, 2, 'S', '3');
        due.is("digest()", x.digest(), h);
    }

    /** Each refused call, on a full object: nothing that can be asked for is another one then. */
    private static void refusals() {
        CityRoad x = new CityRoad();
        Due.rowOf(x, 0, 1, 1, 1, 1);
        Due.rowOf(x, 1, 1, 1, 1);
        x.building(0, 0, 1, 500);
        x.building(20, 1, 5, 600);
        x.building(1, 0, 0, 600);
        x.person(0, 11, true, 3);
        x.line(0, 9, 0);
        x.show(0);
        x.take(0, 0);
        x.owed();
        x.over(0);
        x.lay(0, 0, 77);
        Due.textOf(x, 0, "S");
        Due.rowOf(x, 2, 3, NONE, NONE);
        x.acts(2);
        x.grant(1, 1);
        x.act(0);
        long digest = x.digest(), set = x.set(), coins = x.coins();
        int asked = x.asked();
        int[] refused = {
            x.row(0, 41), x.row(0, -1), x.lay(0, 4, 0), x.lay(3, 0, 0), x.tear(3), x.copy(0, 0, 0, 1, 4), x.copy(0, 0, 3, 0, 1),
            x.text(0, -1), x.text(0, 41), x.put(0, 1, 1), x.put(1, 0, 1), x.fault(1), x.later(-1), x.later(1000),
            x.cell(20, 4, 5), x.cell(0, 0, 100), x.building(20, 0, 0, 1), x.building(64, 0, 0, 1), x.worth(0, 1), x.worth(1, 0),
            x.value(0, -1), x.house(0, 6), x.person(0, 0, true, 0), x.person(2, 0, true, 0), x.who(0, 4), x.mean(2), x.mean(3),
            x.rule(0, 0), x.rule(1, 0), x.force(8, 0, 0), x.why(0, 0, -1), x.line(0, 0, 0), x.line(0, 1, 1), x.line(0, 1, 3),
            x.ramp(0, 63), x.ramp(1, 8), x.cellOf(1, 0), x.show(0), x.show(1), x.take(0, 0),
            x.take(1, 0), x.take(2, 1), x.moved(0, 0, 1), x.moved(1, 0, 2), x.grant(0, 0), x.hearing(1, 0, 0, 0),
            x.told(0, 3), x.mark(0, 0), x.mark(0, 2), x.cost(1), x.shown(1), x.over(1), x.buy(0, 0), x.hear(0, 1), x.early(1),
            x.whither(1), x.fall(1, 1), x.fall(0, 21), x.noise(0, 3), x.noise(1, 0), x.park(1), x.isVoid(0), x.acts(0), x.acts(3),
            x.grants(0, 0), x.stop(0, 0), x.judge(0, 1, 0), x.judge(1, 0, 0), x.best(1, 0), x.best(0, 6), x.count(10), x.findings(0),
        };
        for (int i = 0; i < refused.length; i++) due.is("refusal " + i, refused[i] >= STATE && refused[i] <= BAD ? 1 : 0, 1);
        due.is("set() stays", x.set(), set);
        due.is("coins() stays", x.coins(), coins);
        due.is("asked() stays", x.asked(), asked);
        due.is("act(0) stays", x.act(0), 3);
        due.is("digest() stays", x.digest(), digest);
    }
}
