import java.util.Random;

/**
 * Any numbers in any state: no call may throw. Whatever a run has become, numbers far off, at the edges
 * and near by are tried on every call; and the objects stay within what an object may hold.
 */
public final class HardyTest {
    private static final int[] FAR = {Integer.MIN_VALUE, -100000, -9, -2, -1, 64, 100, 1000, 1001, 100001, Integer.MAX_VALUE};
    private static final int[] MOST = {1000, 33, 41, 41, 17, 25, 41, 101, 7, 5};

    public static void main(String[] args) {
        for (int run = 0; run < 1500; run++) {
            Random chance = new Random(run);
            CityRoad x = new CityRoad();
            int near = 3 + run % 40;
            for (int call = 0; call < 512; call++) {
                ask(x, chance.nextInt(54), n(chance, near), n(chance, near), n(chance, near), n(chance, near), n(chance, near));
            }
            for (int what = 0; what < 10; what++) {
                if (x.count(what) >= 0 && x.count(what) < MOST[what]) continue;
                System.out.println("HardyTest: run " + run + ": count(" + what + ") is " + x.count(what));
                System.exit(1);
            }
        }
        System.out.println("HardyTest: no call threw");
    }

    private static int n(Random chance, int near) {
        return chance.nextInt(12) == 0 ? FAR[chance.nextInt(FAR.length)] : chance.nextInt(near);
    }

    private static void ask(CityRoad x, int call, int a, int b, int c, int d, int e) {
        switch (call) {
            case 0: x.row(a, b); break;
            case 1: x.lay(a, b, c % 4 == 0 ? CityRoad.NONE : c); break;
            case 2: if (b == 0) x.tear(a); else x.digest(); break;
            case 3: x.copy(a, b, c, d, e); break;
            case 4: x.text(a, b); break;
            case 5: x.put(a, b, "SFTMKNPH 0123456789"
                .charAt(Math.floorMod(c, 19))); break;
            case 6: x.fault(a); break;
            case 7: x.later(a); break;
            case 8: x.cell(a, b % 6, c); break;
            case 9: x.building(a, b % 4, c % 25, d); break;
            case 10: x.worth(a, b); break;
            case 11: x.value(a, b); break;
            case 12: x.house(a, b); break;
            case 13: x.person(a % 4 == 0 ? CityRoad.NONE : a, b, c % 2 == 0, d); break;
            case 14: x.who(a, b); break;
            case 15: x.mean(a); break;
            case 16: x.rule(a, b); break;
            case 17: x.force(a, b, c); break;
            case 18: x.why(a, b, c); break;
            case 19: case 20: x.row(c % 6, 4); x.line(a, b, c); break;
            case 21: x.ramp(a, b); break;
            case 22: x.cellOf(a, b); break;
            case 23: x.show(a); break;
            case 24: case 25: x.take(a, b); break;
            case 26: case 27: x.moved(a, b, c); break;
            case 28: x.grant(a, b); break;
            case 29: x.hearing(a, b, c, d); break;
            case 30: x.told(a, b); break;
            case 31: x.mark(a, b); break;
            case 32: x.cost(a); break;
            case 33: x.shown(a); break;
            case 34: x.over(a); break;
            case 35: x.buy(a, b); break;
            case 36: case 37: x.hear(a, b); break;
            case 38: x.early(a); break;
            case 39: x.whither(a); break;
            case 40: x.fall(a, b); break;
            case 41: x.noise(a, b); break;
            case 42: x.park(a); break;
            case 43: x.isVoid(a); break;
            case 44: x.owed(); break;
            case 45: x.acts(a); break;
            case 46: x.act(a); break;
            case 47: x.grants(a, b); break;
            case 48: x.stop(a, b); break;
            case 49: x.judge(a, b, c); break;
            case 50: x.best(a, b); break;
            case 51: x.count(a); break;
            case 52: x.findings(a); break;
            default: x.finding();
        }
    }
}
