/** Counts and prints the answers that are not the ones that are due. */
final class Due {
    private final String name;
    private int wrong;
    private int asked;

    Due(String name) {
        this.name = name;
    }

    void is(String call, long got, long want) {
        asked++;
        if (got == want) return;
        wrong++;
        System.out.println(name + ": " + call + " answered " + got + ", due is " + want);
    }

    /** A call that answers 1 and tells by asked(). */
    void tells(String call, CityRoad x, long got, long want) {
        is(call, got, 1);
        is(call + " by asked()", x.asked(), want);
    }

    /** A FINDING, by its number. */
    void finds(String call, CityRoad x, long got, int finding) {
        is(call, got, CityRoad.FINDING);
        is(call + " by finding()", x.finding(), finding);
    }

    void end() {
        System.out.println(name + ": " + asked + " answers, " + wrong + " not as due");
        if (wrong != 0) System.exit(1);
    }

    static void rowOf(CityRoad x, int r, int... numbers) {
        x.row(r, numbers.length);
        for (int i = 0; i < numbers.length; i++) x.lay(r, i, numbers[i]);
    }

    static void textOf(CityRoad x, int t, String signs) {
        x.text(t, signs.length());
        for (int i = 0; i < signs.length(); i++) x.put(t, i, signs.charAt(i));
    }

    static int ruleOf(CityRoad x, String signs, int from) {
        textOf(x, 3, signs);
        return x.rule(3, from);
    }
}
