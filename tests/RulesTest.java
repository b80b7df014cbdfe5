/** Promises 18 to 20: rules. */
public final class RulesTest {
    private static final int BAD = CityRoad.BAD, FULL = CityRoad.FULL, STATE = CityRoad.STATE, NONE = CityRoad.NONE;
    private static final int NOTHING = 1;
    private static final int[] DEFAULTS = {10, 20, 100, 50, 2, 60, 3, 7};
    private static final Due due = new Due("RulesTest");

    public static void main(String[] args) {
        rules();
        manyRules();
        letters();
        inForce();
        wrong();
        due.end();
    }

    private static void rules() {
        CityRoad x = new CityRoad();
        due.finds("rule(0, 0)", x, x.rule(0, 0), NOTHING);
        x.text(0, 0);
        due.is("rule of no items", x.rule(0, 0), 0);
        due.is("count(4)", x.count(4), 1);
        Due.textOf(x, 0, "S1F");
        due.is("rule of a FAULT", x.rule(0, 0), STATE);
        due.is("count(4)", x.count(4), 1);
        due.is("rule(4, 0)", x.rule(4, 0), BAD);
        due.is("rule(-1, 0)", x.rule(-1, 0), BAD);
        due.is("rule(0, 1000)", x.rule(0, 1000), BAD);
        due.is("rule(0, -1)", x.rule(0, -1), BAD);
        Due.textOf(x, 0, "S1");
        due.is("rule(0, 999)", x.rule(0, 999), 1);
        x.put(0, 1, '2');
        due.is("RULES stay as they were told", x.force(0, 999, 0), 1);
    }

    private static void manyRules() {
        CityRoad x = new CityRoad();
        x.text(0, 1);
        for (int r = 0; r < 16; r++) due.is("rule " + r, x.rule(0, r), r);
        due.is("rule 16", x.rule(0, 0), FULL);
        due.is("FULL ahead of NOTHING", x.rule(1, 0), FULL);
        due.is("BAD ahead of FULL", x.rule(1, 1000), BAD);
        x.put(0, 0, 'X');
        due.is("FULL ahead of STATE", x.rule(0, 0), FULL);
    }

    private static void letters() {
        String letters = "SFTMKNPH";
        for (int what = 0; what < 8; what++) {
            CityRoad x = new CityRoad();
            due.is("force(" + what + ") of none", x.force(what, 0, 0), DEFAULTS[what]);
            due.is("why(" + what + ") of none", x.why(what, 0, 0), NONE);
            Due.ruleOf(x, " " + letters.charAt(what) + "9871 " + letters.charAt(what) + "0123", 0);
            for (int other = 0; other < 8; other++) {
                due.is("force(" + other + ")", x.force(other, 0, 0), other == what ? 123 : DEFAULTS[other]);
                due.is("why(" + other + ")", x.why(other, 0, 0), other == what ? 0 : NONE);
            }
        }
    }

    private static void inForce() {
        CityRoad x = new CityRoad();
        Due.ruleOf(x, "T10", 5);
        Due.ruleOf(x, "T20", 9);
        x.later(3);
        Due.ruleOf(x, "T30", 5);
        Due.ruleOf(x, "S4", 20);
        x.later(3);
        Due.ruleOf(x, "T40T0", 0);
        Due.ruleOf(x, "T50", 9);
        Due.ruleOf(x, "T60", 2);
        int[][] due9 = {
            {4, 0, 100, NONE}, {5, 0, 10, 0}, {8, 2, 10, 0}, {9, 0, 20, 1}, {999, 2, 20, 1},
            {4, 3, 100, NONE}, {5, 3, 30, 2}, {8, 5, 30, 2}, {9, 5, 20, 1},
            {0, 6, 0, 4}, {1, 6, 0, 4}, {2, 6, 60, 6}, {4, 6, 60, 6}, {5, 6, 30, 2}, {9, 6, 50, 5}, {999, 999, 50, 5},
        };
        for (int[] one : due9) {
            due.is("force(2, " + one[0] + ", " + one[1] + ")", x.force(2, one[0], one[1]), one[2]);
            due.is("why(2, " + one[0] + ", " + one[1] + ")", x.why(2, one[0], one[1]), one[3]);
        }
        due.is("S: not yet", x.force(0, 19, 6), 10);
        due.is("S: from then on", x.force(0, 20, 6), 4);
    }

    private static void wrong() {
        CityRoad x = new CityRoad();
        int[][] bad = {{8, 0, 0}, {-1, 0, 0}, {0, 1000, 0}, {0, -1, 0}, {0, 0, 1000}, {0, 0, -1}, {0, NONE, 0}};
        for (int[] one : bad) {
            due.is("force of a number that is none", x.force(one[0], one[1], one[2]), BAD);
            due.is("why of a number that is none", x.why(one[0], one[1], one[2]), BAD);
        }
    }
}
