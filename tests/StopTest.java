import java.util.Random;

/** Promise 47 where much is built and much is WATER: against all tries of the Model. */
public final class StopTest {
    private static final Due due = new Due("StopTest");
    private static final int[] sizes = new int[33];

    public static void main(String[] args) {
        for (int run = 0; run < 1500; run++) play(new Random(run), run);
        int large = 0;
        for (int n = 3; n < sizes.length; n++) large += sizes[n];
        due.is("enough sets of three and more", large >= 300 ? 1 : 0, 1);
        due.end();
    }

    private static void play(Random chance, int run) {
        CityRoad x = new CityRoad();
        Model y = new Model();
        int dry = 3 + run % 6;
        for (int c = 0; c < 64; c++) {
            int sort = chance.nextInt(dry) == 0 ? 4 : 0, height = chance.nextInt(12);
            x.cell(c, sort, height);
            y.cell(c, sort, height);
        }
        boolean ring = run % 2 == 0;
        for (int i = 0; i < 90; i++) {
            int c = chance.nextInt(64);
            if (ring && Math.abs(c % 8 - 3) + Math.abs(c / 8 - 3) > 4) continue;
            if (ring && Math.abs(c % 8 - 3) + Math.abs(c / 8 - 3) < 2) continue;
            x.building(c, i % 3, 0, 1);
            y.building(c, i % 3, 0, 1);
        }
        for (int k = 0; k < 6; k++) {
            int a = ring ? 27 : chance.nextInt(64), b = chance.nextInt(64);
            int want = y.stop(a, b);
            due.is("run " + run + ": stop(" + a + ", " + b + ")", x.stop(a, b), want);
            due.is("run " + run + ": set()", x.set(), y.set);
            if (want > 0) sizes[want]++;
        }
    }
}
