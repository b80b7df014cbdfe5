import java.util.Random;

/** All promises: runs of calls by chance (always the same ones), answered by the program and by the Model. */
public final class ModelTest {
    private static final int RUNS = 400, CALLS = 512, NONE = CityRoad.NONE;
    private static int wrong = 0;
    private static long refused = 0;
    private static final int[] answered = new int[60];

    public static void main(String[] args) {
        for (int run = 0; run < RUNS && wrong < 10; run++) new ModelTest(run).play();
        System.out.println("ModelTest: " + RUNS + " runs, " + refused + " calls refused, " + wrong + " runs went wrong");
        for (int call = 0; call < 55; call++) {
            if (call != 54 && answered[call] == 0) {
                wrong++;
                System.out.println("ModelTest: call " + call + " was never answered but by a refusal");
            }
        }
        if (wrong != 0) System.exit(1);
    }

    private final int run;
    private final Random chance;
    private final CityRoad x = new CityRoad();
    private final Model y = new Model();
    private final StringBuilder told = new StringBuilder();
    private long got;
    private long want;

    private ModelTest(int run) {
        this.run = run;
        this.chance = new Random(run);
    }

    private void play() {
        setUp();
        for (int call = 0; call < CALLS; call++) {
            int which = chance.nextInt(54);
            told.setLength(0);
            ask(which);
            if (want < 0 && want >= -4) refused++;
            else answered[which]++;
            boolean alike = got == want && x.asked() == y.asked && x.set() == y.set && x.coins() == y.coins
                && x.finding() == y.finding && x.digest() == y.digest();
            if (alike) continue;
            wrong++;
            System.out.println("ModelTest: run " + run + ", call " + call + " " + told + ": " + got + " for " + want
                + "; asked " + x.asked() + " for " + y.asked + "; set " + x.set() + " for " + y.set
                + "; coins " + x.coins() + " for " + y.coins + "; finding " + x.finding() + " for " + y.finding);
            return;
        }
    }

    private int up(int n) {
        return chance.nextInt(n);
    }

    /** A number out of 0 .. n - 1; now and then one that is none. */
    private int some(int n) {
        if (up(40) == 0) return new int[] {-1, n, NONE, Integer.MAX_VALUE, Integer.MIN_VALUE}[up(5)];
        return n < 1 ? 0 : up(n);
    }

    private int mark() {
        return some(y.marks.size());
    }

    private int line() {
        for (int k = 0; k < 6; k++) {
            int m = y.marks.isEmpty() ? 0 : up(y.marks.size());
            if (!y.marks.isEmpty() && y.marks.get(m).isLine()) return m;
        }
        return mark();
    }

    private int kind(int kind) {
        for (int k = 0; k < 8; k++) {
            int m = y.marks.isEmpty() ? 0 : up(y.marks.size());
            if (!y.marks.isEmpty() && y.marks.get(m).kind == kind) return m;
        }
        return mark();
    }

    private int bld() {
        return some(y.buildings.size());
    }

    private int prs() {
        return some(y.persons.size());
    }

    private int day() {
        return up(3) == 0 ? some(1000) : Math.max(0, Math.min(999, y.today + up(21) - 10));
    }

    /** Rows 0 and 1 cost, 2 weighs, 3 tells noise, 4 acts, 5 anything. */
    private void goodRow(int r) {
        int size = r == 3 ? up(16) : r == 4 ? 3 * (1 + up(5)) : r == 5 ? up(41) : 4;
        x.row(r, size);
        y.row(r, size);
        for (int i = 0; i < size; i++) {
            int v = r < 2 ? up(30) * up(3) : r == 2 ? up(101) : r == 3 ? 100 - 9 * i + up(20) : up(50) - 5;
            if (r == 4) v = i % 3 == 0 ? up(60) : up(2) == 0 ? NONE : up(1 + i / 3);
            x.lay(r, i, v);
            y.lay(r, i, v);
        }
    }

    private void goodText(int t) {
        StringBuilder signs = new StringBuilder();
        int[] usual = {20, 40, 130, 60, 4, 110, 4, 9};
        for (int i = up(4); i > 0; i--) {
            int what = up(8);
            signs.append(" ".repeat(up(3))).append("SFTMKNPH".charAt(what)).append(up(usual[what]));
        }
        x.text(t, signs.length());
        y.text(t, signs.length());
        for (int i = 0; i < signs.length(); i++) {
            x.put(t, i, signs.charAt(i));
            y.put(t, i, signs.charAt(i));
        }
    }

    private void setUp() {
        for (int r = 0; r < 6; r++) goodRow(r);
        for (int t = 0; t < 4; t++) goodText(t);
        boolean hilly = up(3) == 0;
        for (int i = 0; i < 30; i++) {
            int c = up(64), sort = up(5), height = hilly ? up(25) : up(4);
            x.cell(c, sort, height);
            y.cell(c, sort, height);
        }
        for (int i = up(26); i > 0; i--) {
            int c = up(2) == 0 ? up(64) : up(8) * 8 + 3 + up(2), use = up(3) == 0 ? 1 : up(3), rooms = up(4), worth = 1 + up(4000);
            x.building(c, use, rooms, worth);
            y.building(c, use, rooms, worth);
        }
        for (int i = up(20); i > 0; i--) {
            int home = up(1 + y.buildings.size()) - 1, work = up(3) == 0 ? NONE : up(64), kin = up(4);
            boolean car = up(2) == 0;
            x.person(home < 0 ? NONE : home, work, car, kin);
            y.person(home < 0 ? NONE : home, work, car, kin);
        }
    }

    private int[] args(int... numbers) {
        for (int v : numbers) told.append(' ').append(v);
        return numbers;
    }

    private void answers(long program, long model) {
        got = program;
        want = model;
    }

    private void ask(int which) {
        told.append("no ").append(which).append(':');
        if (which < 18) askFirst(which);
        else if (which < 34) askMarks(which);
        else askLast(which);
    }

    private void askFirst(int which) {
        int[] a;
        switch (which) {
            case 0: rowAnew(args(some(6), some(41))); break;
            case 1: a = args(some(6), some(20), up(4) == 0 ? chance.nextInt() : up(1002)); answers(x.lay(a[0], a[1], a[2]), y.lay(a[0], a[1], a[2])); break;
            case 2: a = args(up(4) == 0 ? some(6) : 5); answers(x.tear(a[0]), y.tear(a[0])); break;
            case 3: a = args(some(6), some(6), some(6), some(6), some(6)); answers(x.copy(a[0], a[1], a[2], a[3], a[4]), y.copy(a[0], a[1], a[2], a[3], a[4])); break;
            case 4: a = args(some(4), some(41)); answers(x.text(a[0], a[1]), y.text(a[0], a[1])); if (up(2) == 0) goodText(up(4)); break;
            case 5: a = args(some(4), some(8), up(5) == 0 ? chance.nextInt() : "SFTMKNPH 0123456789".charAt(up(19))); answers(x.put(a[0], a[1], a[2]), y.put(a[0], a[1], a[2])); break;
            case 6: a = args(some(4)); answers(x.fault(a[0]), y.fault(a[0])); break;
            case 7: a = args(some(12)); answers(x.later(a[0]), y.later(a[0])); break;
            case 8: a = args(some(64), some(5), some(12)); answers(x.cell(a[0], a[1], a[2]), y.cell(a[0], a[1], a[2])); break;
            case 9: a = args(some(64), some(3), some(5), some(9000)); answers(x.building(a[0], a[1], a[2], a[3]), y.building(a[0], a[1], a[2], a[3])); break;
            case 10: a = args(bld(), up(3) == 0 ? some(100001) : 1 + up(300)); answers(x.worth(a[0], a[1]), y.worth(a[0], a[1])); break;
            case 11: a = args(bld(), day()); answers(x.value(a[0], a[1]), y.value(a[0], a[1])); break;
            case 12: a = args(bld(), some(6)); answers(x.house(a[0], a[1]), y.house(a[0], a[1])); break;
            case 13: a = args(up(5) == 0 ? NONE : bld(), up(4) == 0 ? NONE : some(64), some(4)); askPerson(a); break;
            case 14: a = args(prs(), some(4)); answers(x.who(a[0], a[1]), y.who(a[0], a[1])); break;
            case 15: a = args(some(3)); answers(x.mean(a[0]), y.mean(a[0])); break;
            case 16: a = args(some(4), up(4) == 0 ? day() : up(20)); answers(x.rule(a[0], a[1]), y.rule(a[0], a[1])); break;
            default: a = args(some(8), day(), day()); answers(x.force(a[0], a[1], a[2]), y.force(a[0], a[1], a[2])); break;
        }
    }

    private void rowAnew(int[] a) {
        if (up(3) == 0) {
            goodRow(up(6));
            answers(0, 0);
        } else {
            answers(x.row(a[0], a[1]), y.row(a[0], a[1]));
            goodRow(a[0] >= 0 && a[0] < 6 ? a[0] : 0);
        }
    }

    private void askPerson(int[] a) {
        boolean car = up(2) == 0;
        // the Model tries all ways to lead those who live there: few may live on one line
        if (y.persons.size() > 24) {
            answers(0, 0);
            return;
        }
        answers(x.person(a[0], a[1], car, a[2]), y.person(a[0], a[1], car, a[2]));
    }

    private void askMarks(int which) {
        int[] a;
        switch (which) {
            case 18: a = args(some(8), day(), day()); answers(x.why(a[0], a[1], a[2]), y.why(a[0], a[1], a[2])); break;
            case 19: case 20: a = args(some(64), some(64), up(6) == 0 ? some(6) : up(2)); if (y.marks.size() > 9 && up(8) > 0) { answers(0, 0); break; } answers(x.line(a[0], a[1], a[2]), y.line(a[0], a[1], a[2])); break;
            case 21: a = args(line(), some(64)); if (up(5) > 0) { answers(0, 0); break; } answers(x.ramp(a[0], a[1]), y.ramp(a[0], a[1])); break;
            case 22: a = args(line(), some(10)); answers(x.cellOf(a[0], a[1]), y.cellOf(a[0], a[1])); break;
            case 23: a = args(line()); answers(x.show(a[0]), y.show(a[0])); break;
            case 24: case 25: a = args(bld(), line()); if (up(4) > 0) a = taking(a); answers(x.take(a[0], a[1]), y.take(a[0], a[1])); break;
            case 26: case 27: a = args(kind(3), nowhere(), bld()); if (up(4) > 0) a = moving(a); answers(x.moved(a[0], a[1], a[2]), y.moved(a[0], a[1], a[2])); break;
            case 28: a = args(some(11), day()); if (up(12) > 0) { answers(0, 0); break; } answers(x.grant(a[0], a[1]), y.grant(a[0], a[1])); break;
            case 29: a = args(line(), some(64), some(24), day()); if (up(8) > 0) { answers(0, 0); break; } answers(x.hearing(a[0], a[1], a[2], a[3]), y.hearing(a[0], a[1], a[2], a[3])); break;
            case 30: a = args(mark(), some(3)); answers(x.told(a[0], a[1]), y.told(a[0], a[1])); break;
            case 31: a = args(mark(), some(7)); answers(x.mark(a[0], a[1]), y.mark(a[0], a[1])); break;
            case 32: a = args(line()); answers(x.cost(a[0]), y.cost(a[0])); break;
            default: a = args(line()); answers(x.shown(a[0]), y.shown(a[0])); break;
        }
    }

    /** A BUILDING on a LINE that is SHOWN, if a few tries find one. */
    private int[] taking(int[] other) {
        for (int k = 0; k < 300 && !y.buildings.isEmpty() && !y.marks.isEmpty(); k++) {
            int b = up(y.buildings.size()), l = up(y.marks.size());
            Model.Building one = y.buildings.get(b);
            if (y.marks.get(l).shown != NONE && !one.taken && y.marks.get(l).cells.contains(one.cell)) return args(b, l);
        }
        return other;
    }

    /** One who lives nowhere since a TAKING, and a HOUSE, if a few tries find them. */
    private int[] moving(int[] other) {
        for (int k = 0; k < 300 && !y.persons.isEmpty() && !y.marks.isEmpty() && !y.buildings.isEmpty(); k++) {
            int t = up(y.marks.size()), p = up(y.persons.size()), b = up(y.buildings.size());
            if (!y.marks.get(t).lived.contains(p) || y.persons.get(p).home != NONE) continue;
            if (y.buildings.get(b).use == 0 && !y.buildings.get(b).taken || up(8) == 0) return args(t, p, b);
        }
        return other;
    }

    private int nowhere() {
        for (int k = 0; k < 8 && !y.persons.isEmpty(); k++) {
            int p = up(y.persons.size());
            if (y.persons.get(p).home == NONE) return p;
        }
        return prs();
    }

    private int onLine(int l) {
        int n = 0;
        if (l < 0 || l >= y.marks.size()) return 0;
        for (Model.Person p : y.persons) {
            if (p.home != NONE && y.marks.get(l).cells.contains(y.buildings.get(p.home).cell)) n++;
        }
        return n;
    }

    private void askLast(int which) {
        int[] a;
        switch (which) {
            case 34: a = args(line()); answers(x.over(a[0]), y.over(a[0])); break;
            case 35: a = args(bld(), prs()); answers(x.buy(a[0], a[1]), y.buy(a[0], a[1])); break;
            case 36: case 37: a = args(prs(), line()); answers(x.hear(a[0], a[1]), y.hear(a[0], a[1])); break;
            case 38: a = args(line()); answers(x.early(a[0]), y.early(a[0])); break;
            case 39: a = args(line()); if (onLine(a[0]) > 9) { answers(0, 0); break; } answers(x.whither(a[0]), y.whither(a[0])); break;
            case 40: a = args(line(), some(21)); answers(x.fall(a[0], a[1]), y.fall(a[0], a[1])); break;
            case 41: a = args(line(), up(4) == 0 ? some(6) : 3); answers(x.noise(a[0], a[1]), y.noise(a[0], a[1])); break;
            case 42: a = args(line()); answers(x.park(a[0]), y.park(a[0])); break;
            case 43: a = args(up(2) == 0 ? kind(3) : kind(6)); answers(x.isVoid(a[0]), y.isVoid(a[0])); break;
            case 44: answers(x.owed(), y.owed()); break;
            case 45: a = args(up(4) == 0 ? some(6) : 4); answers(x.acts(a[0]), y.acts(a[0])); break;
            case 46: a = args(some(6)); answers(x.act(a[0]), y.act(a[0])); break;
            case 47: a = args(kind(5), line()); answers(x.grants(a[0], a[1]), y.grants(a[0], a[1])); break;
            case 48: a = args(some(64), some(64)); answers(x.stop(a[0], a[1]), y.stop(a[0], a[1])); break;
            case 49: a = args(line(), up(4) == 0 ? some(6) : 2, up(4) == 0 ? some(6) : 3); answers(x.judge(a[0], a[1], a[2]), y.judge(a[0], a[1], a[2])); break;
            case 50: a = args(up(4) == 0 ? some(6) : 2, up(4) == 0 ? some(6) : 3); answers(x.best(a[0], a[1]), y.best(a[0], a[1])); break;
            case 51: a = args(some(10)); answers(x.count(a[0]), y.count(a[0])); break;
            case 52: a = args(1 + some(5)); answers(x.findings(a[0]), y.findings(a[0])); break;
            default: answers(x.digest(), y.digest()); break;
        }
    }
}
