import java.util.Random;

/** Promise 37 where very many are led: against all places one by one (an assignment by potentials). */
public final class WhitherTest {
    private static final Due due = new Due("WhitherTest");

    public static void main(String[] args) {
        for (int run = 0; run < 300; run++) play(new Random(run), run);
        due.end();
    }

    private static void play(Random chance, int run) {
        CityRoad x = new CityRoad();
        Due.rowOf(x, 0, 0, 0, 0, 0);
        x.building(0, 0, 20, 1);
        boolean full = run % 3 == 0;
        if (!full) x.building(1, 0, 20, 1);
        int[] cells = new int[32], rooms = new int[32];
        int houses = full ? 31 : 1 + chance.nextInt(28), places = 0;
        for (int i = 0; i < houses; i++) {
            cells[i] = full ? 10 + i : 8 + chance.nextInt(56);
            rooms[i] = full && run % 2 == 0 ? 1 : chance.nextInt(1 + run % 7);
            if (x.building(cells[i], 0, rooms[i], 1) < 0) rooms[i] = 0;
            places += rooms[i];
        }
        int people = chance.nextInt(full ? 21 : 41);
        int[] works = new int[people];
        for (int p = 0; p < people; p++) {
            works[p] = chance.nextInt(8) == 0 ? CityRoad.NONE : chance.nextInt(64);
            x.person(p < 20 ? 0 : 1, works[p], false, 0);
        }
        x.line(0, 1, 0);
        int[][] price = new int[people][places];
        int place = 0;
        for (int i = 0; i < houses; i++) {
            for (int k = 0; k < rooms[i]; k++, place++) {
                for (int p = 0; p < people; p++) price[p][place] = works[p] < 0 ? 0 : steps(cells[i], works[p]);
            }
        }
        due.is("whither, run " + run, x.whither(0), Math.min(people, places));
        due.is("the least sum, run " + run, x.asked(), people <= places ? least(price, people, places) : least(turned(price, people, places), places, people));
        due.is("whither again, run " + run, x.whither(0), Math.min(people, places));
    }

    private static int steps(int a, int b) {
        return Math.abs(a % 8 - b % 8) + Math.abs(a / 8 - b / 8);
    }

    private static int[][] turned(int[][] price, int rows, int columns) {
        int[][] other = new int[columns][rows];
        for (int i = 0; i < rows; i++) {
            for (int j = 0; j < columns; j++) other[j][i] = price[i][j];
        }
        return other;
    }

    /** Of n rows and m columns, n no more than m: each row one column of its own, by the least sum. */
    private static int least(int[][] price, int n, int m) {
        int[] u = new int[n + 1], v = new int[m + 1], row = new int[m + 1], way = new int[m + 1];
        for (int i = 1; i <= n; i++) {
            row[0] = i;
            int j0 = 0;
            int[] min = new int[m + 1];
            java.util.Arrays.fill(min, 1000000);
            boolean[] used = new boolean[m + 1];
            do {
                used[j0] = true;
                int delta = 1000000, j1 = 0;
                for (int j = 1; j <= m; j++) {
                    if (used[j]) continue;
                    int cur = price[row[j0] - 1][j - 1] - u[row[j0]] - v[j];
                    if (cur < min[j]) {
                        min[j] = cur;
                        way[j] = j0;
                    }
                    if (min[j] < delta) {
                        delta = min[j];
                        j1 = j;
                    }
                }
                for (int j = 0; j <= m; j++) {
                    if (used[j]) {
                        u[row[j]] += delta;
                        v[j] -= delta;
                    } else min[j] -= delta;
                }
                j0 = j1;
            } while (row[j0] != 0);
            for (; j0 != 0; j0 = way[j0]) row[j0] = row[way[j0]];
        }
        return -v[0];
    }
}
