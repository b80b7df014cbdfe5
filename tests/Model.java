import java.util.ArrayList;
import java.util.Arrays;
import java.util.List;
import java.util.PriorityQueue;
import java.util.TreeMap;

/**
 * The document once more, as slow and plain as can be and by other ways than the program: lists of
 * objects, all tries gone through. ModelTest lets both answer the same calls.
 */
final class Model {
    static final int BAD = -1, FULL = -2, FINDING = -3, STATE = -4, NONE = -9;

    static final class Building {
        int cell, use, rooms, buyer = NONE;
        boolean taken;
        final TreeMap<Integer, Integer> worths = new TreeMap<>();
        int firstWorth;
    }

    static final class Person {
        int home, work, kin;
        boolean car;
    }

    static final class Rule {
        int told, from;
        String text;
    }

    static final class Mark {
        int kind, day, hangs = NONE, cost, shown = NONE, amount, person, cell, hour, date;
        List<Integer> cells = new ArrayList<>();
        List<Integer> lived = new ArrayList<>();

        boolean isLine() {
            return kind == 1 || kind == 2;
        }
    }

    final int[][] rows = new int[6][];
    final byte[][] texts = new byte[4][];
    final int[] sort = new int[64], height = new int[64];
    final List<Building> buildings = new ArrayList<>();
    final List<Person> persons = new ArrayList<>();
    final List<Rule> rules = new ArrayList<>();
    final List<Mark> marks = new ArrayList<>();
    final List<int[]> buys = new ArrayList<>();
    final List<int[]> heards = new ArrayList<>();
    final int[] findings = new int[6];
    int today, asked, finding, tellings;
    long set, coins;
    int[] ends, laters;
    int planEnd;

    private int find(int f) {
        finding = f;
        findings[f]++;
        return FINDING;
    }

    private int tell(int v) {
        asked = v;
        return 1;
    }

    private static boolean in(int v, int low, int high) {
        return low <= v && v <= high;
    }

    // ---- rows, texts

    int row(int r, int n) {
        if (!in(r, 0, 5) || n > 40) return BAD;
        if (n < 0) return find(5);
        rows[r] = new int[n];
        return n;
    }

    int lay(int r, int i, int v) {
        if (!in(r, 0, 5)) return BAD;
        if (rows[r] == null) return find(1);
        if (!in(i, 0, rows[r].length - 1)) return find(2);
        int was = rows[r][i];
        rows[r][i] = v;
        return tell(was);
    }

    int tear(int r) {
        if (!in(r, 0, 5)) return BAD;
        if (rows[r] == null) return find(1);
        rows[r] = null;
        return 1;
    }

    int copy(int r, int i, int to, int j, int n) {
        if (!in(r, 0, 5) || !in(to, 0, 5)) return BAD;
        if (n < 0) return find(5);
        if (rows[r] == null || rows[to] == null) return find(1);
        if (i < 0 || j < 0 || (long) i + n > rows[r].length || (long) j + n > rows[to].length) return find(2);
        int[] from = rows[r].clone();
        for (int k = 0; k < n; k++) rows[to][j + k] = from[i + k];
        return 1;
    }

    int text(int t, int n) {
        if (!in(t, 0, 3) || n > 40) return BAD;
        if (n < 0) return find(5);
        texts[t] = new byte[n];
        Arrays.fill(texts[t], (byte) 32);
        return n;
    }

    int put(int t, int i, int v) {
        if (!in(t, 0, 3)) return BAD;
        if (texts[t] == null) return find(1);
        if (!in(i, 0, texts[t].length - 1)) return find(2);
        int was = texts[t][i];
        texts[t][i] = (byte) v;
        return was + 1000;
    }

    private static String signs(byte[] text) {
        StringBuilder all = new StringBuilder();
        for (byte b : text) all.append((char) (b & 255));
        return all.toString();
    }

    /** The first place behind which no text could go on as one without a fault. */
    private static int faultOf(String text) {
        for (int n = 1; n <= text.length(); n++) {
            if (!text.substring(0, n).matches("( *[SFTMKNPH][0-9]{1,4})* *[SFTMKNPH]?")) return n - 1;
        }
        return text.matches("( *[SFTMKNPH][0-9]{1,4})* *") ? NONE : text.length();
    }

    int fault(int t) {
        if (!in(t, 0, 3)) return BAD;
        if (texts[t] == null) return find(1);
        return faultOf(signs(texts[t]));
    }

    int later(int n) {
        if (n < 0 || (long) today + n > 999) return BAD;
        today += n;
        return today;
    }

    // ---- cells, buildings, persons

    private int x(int c) {
        return c % 8;
    }

    private int y(int c) {
        return c / 8;
    }

    private int steps(int a, int b) {
        return Math.abs(x(a) - x(b)) + Math.abs(y(a) - y(b));
    }

    private Building standing(int c) {
        for (Building b : buildings) {
            if (b.cell == c && !b.taken) return b;
        }
        return null;
    }

    private int live(int b) {
        int n = 0;
        for (Person p : persons) {
            if (p.home == b) n++;
        }
        return n;
    }

    private boolean hasRoom(int b) {
        Building one = buildings.get(b);
        return one.use == 0 && !one.taken && live(b) < one.rooms;
    }

    private int worthNow(Building b) {
        return b.worths.floorEntry(today).getValue();
    }

    private void assess(Building b, int v) {
        if (b.worths.isEmpty()) b.firstWorth = v;
        b.worths.put(today, v);
        tellings++;
    }

    int cell(int c, int s, int h) {
        if (!in(c, 0, 63) || !in(s, 0, 4) || !in(h, 0, 99)) return BAD;
        if (s == 4 && standing(c) != null) return STATE;
        sort[c] = s;
        height[c] = h;
        return 1;
    }

    int building(int c, int use, int rooms, int worth) {
        if (!in(c, 0, 63) || !in(use, 0, 2) || !in(rooms, 0, 20) || !in(worth, 1, 100000)) return BAD;
        if (buildings.size() == 32 || tellings == 100) return FULL;
        if (sort[c] == 4 || standing(c) != null) return STATE;
        Building b = new Building();
        b.cell = c;
        b.use = use;
        b.rooms = rooms;
        assess(b, worth);
        buildings.add(b);
        return buildings.size() - 1;
    }

    int worth(int b, int v) {
        if (!in(b, 0, buildings.size() - 1) || !in(v, 1, 100000)) return BAD;
        if (buildings.get(b).taken) return STATE;
        if (tellings == 100) return FULL;
        int was = worthNow(buildings.get(b));
        assess(buildings.get(b), v);
        return was;
    }

    int value(int b, int day) {
        if (!in(b, 0, buildings.size() - 1) || !in(day, 0, 999)) return BAD;
        return buildings.get(b).worths.floorKey(day) == null ? NONE : buildings.get(b).worths.floorEntry(day).getValue();
    }

    private int houseOf(int b, int what) {
        Building one = buildings.get(b);
        return new int[] {one.cell, one.use, one.rooms, live(b), one.taken ? 1 : 0, one.buyer}[what];
    }

    int house(int b, int what) {
        if (!in(b, 0, buildings.size() - 1) || !in(what, 0, 5)) return BAD;
        return tell(houseOf(b, what));
    }

    int person(int home, int work, boolean car, int kin) {
        if (home != NONE && !in(home, 0, buildings.size() - 1)) return BAD;
        if (work != NONE && !in(work, 0, 63) || !in(kin, 0, 9)) return BAD;
        if (persons.size() == 40) return FULL;
        if (home != NONE && !hasRoom(home)) return STATE;
        Person p = new Person();
        p.home = home;
        p.work = work;
        p.car = car;
        p.kin = kin;
        persons.add(p);
        return persons.size() - 1;
    }

    private int whoOf(int p, int what) {
        Person one = persons.get(p);
        return new int[] {one.home, one.work, one.car ? 1 : 0, one.kin}[what];
    }

    int who(int p, int what) {
        if (!in(p, 0, persons.size() - 1) || !in(what, 0, 3)) return BAD;
        return tell(whoOf(p, what));
    }

    int mean(int use) {
        if (!in(use, 0, 2)) return BAD;
        List<Integer> all = new ArrayList<>();
        for (Building b : buildings) {
            if (!b.taken && b.use == use) all.add(worthNow(b));
        }
        if (all.isEmpty()) return find(4);
        return tell(all.stream().mapToInt(v -> v).sum() / all.size());
    }

    // ---- rules

    int rule(int t, int from) {
        if (!in(t, 0, 3) || !in(from, 0, 999)) return BAD;
        if (rules.size() == 16) return FULL;
        if (texts[t] == null) return find(1);
        if (faultOf(signs(texts[t])) != NONE) return STATE;
        Rule r = new Rule();
        r.told = today;
        r.from = from;
        r.text = signs(texts[t]);
        rules.add(r);
        return rules.size() - 1;
    }

    private int whyOf(int what, int day, int known) {
        char letter = "SFTMKNPH".charAt(what);
        int best = NONE;
        for (int from = day; from >= 0 && best == NONE; from--) {
            for (int r = 0; r < rules.size(); r++) {
                Rule one = rules.get(r);
                if (one.from == from && one.told <= known && one.text.indexOf(letter) >= 0) best = r;
            }
        }
        return best;
    }

    private int forceOf(int what, int day, int known) {
        int r = whyOf(what, day, known);
        if (r == NONE) return new int[] {10, 20, 100, 50, 2, 60, 3, 7}[what];
        String text = rules.get(r).text;
        String behind = text.substring(text.lastIndexOf("SFTMKNPH".charAt(what)) + 1);
        return Integer.parseInt(behind.split("[^0-9]")[0]);
    }

    int force(int what, int day, int known) {
        if (!in(what, 0, 7) || !in(day, 0, 999) || !in(known, 0, 999)) return BAD;
        return forceOf(what, day, known);
    }

    int why(int what, int day, int known) {
        if (!in(what, 0, 7) || !in(day, 0, 999) || !in(known, 0, 999)) return BAD;
        return whyOf(what, day, known);
    }

    private int now(int what) {
        return forceOf(what, today, today);
    }

    // ---- marks

    private boolean noMark(int m) {
        return !in(m, 0, marks.size() - 1);
    }

    private boolean noLine(int m) {
        return !marks.get(m).isLine();
    }

    private Mark add(int kind, int hangs) {
        Mark m = new Mark();
        m.kind = kind;
        m.day = today;
        m.hangs = hangs;
        marks.add(m);
        return m;
    }

    private boolean mayStep(int a, int b) {
        return steps(a, b) == 1 && sort[a] != 4 && sort[b] != 4 && Math.abs(height[a] - height[b]) <= now(0);
    }

    private int price(int c, int r) {
        Building b = standing(c);
        return rows[r][sort[c]] + (b == null ? 0 : worthNow(b) / 100);
    }

    private static int compare(int[] a, int[] b) {
        return a[0] != b[0] ? Integer.compare(a[0], b[0]) : Arrays.compare(a, 1, a.length, b, 1, b.length);
    }

    /** The cost, then the cells. Ways as a whole stand in a queue; the first to come to a cell by a step wins. */
    private int[] cheapest(int a, int b, int r) {
        PriorityQueue<int[]> queue = new PriorityQueue<>(Model::compare);
        boolean[][] done = new boolean[64][64];
        queue.add(new int[] {price(a, r), a});
        while (!queue.isEmpty()) {
            int[] way = queue.poll();
            int last = way[way.length - 1];
            int before = way.length == 2 ? last : way[way.length - 2];
            if (last == b) return way;
            if (done[before][last]) continue;
            done[before][last] = true;
            for (int c = 0; c < 64; c++) {
                if (!mayStep(last, c)) continue;
                int[] longer = Arrays.copyOf(way, way.length + 1);
                longer[way.length] = c;
                longer[0] += price(c, r) + 10 * Math.abs(height[last] - height[c]);
                if (before != last && c - last != last - before) longer[0] += 5;
                queue.add(longer);
            }
        }
        return null;
    }

    int line(int a, int b, int r) {
        if (!in(a, 0, 63) || !in(b, 0, 63) || a == b || !in(r, 0, 5)) return BAD;
        if (marks.size() == 24) return FULL;
        if (rows[r] == null) return find(1);
        if (rows[r].length != 4) return find(5);
        for (int v : rows[r]) {
            if (!in(v, 0, 1000)) return find(3);
        }
        if (sort[a] == 4 || sort[b] == 4) return STATE;
        int[] way = cheapest(a, b, r);
        if (way == null) return find(1);
        Mark m = add(1, NONE);
        m.cost = way[0];
        for (int i = 1; i < way.length; i++) m.cells.add(way[i]);
        return marks.size() - 1;
    }

    int ramp(int l, int c) {
        if (noMark(l) || !in(c, 0, 63)) return BAD;
        if (marks.size() == 24) return FULL;
        if (noLine(l)) return find(3);
        List<Integer> cells = marks.get(l).cells;
        if (sort[c] == 4 || cells.contains(c) || cells.stream().noneMatch(k -> steps(k, c) == 1)) return STATE;
        add(2, l).cells.add(c);
        return marks.size() - 1;
    }

    int cellOf(int l, int i) {
        if (noMark(l)) return BAD;
        if (noLine(l)) return find(3);
        return in(i, 0, marks.get(l).cells.size() - 1) ? marks.get(l).cells.get(i) : NONE;
    }

    int show(int l) {
        if (noMark(l)) return BAD;
        if (noLine(l)) return find(3);
        Mark m = marks.get(l);
        if (m.shown != NONE) return STATE;
        List<Building> near = new ArrayList<>();
        for (Building b : buildings) {
            if (b.taken) continue;
            if (m.cells.stream().anyMatch(c -> Math.abs(x(c) - x(b.cell)) <= 2 && Math.abs(y(c) - y(b.cell)) <= 2)) near.add(b);
        }
        if (tellings + near.size() > 100) return FULL;
        for (Building b : near) assess(b, Math.max(1, (int) Math.floor((100L * worthNow(b) - (long) now(1) * worthNow(b)) / 100.0)));
        m.shown = today;
        return near.size();
    }

    int take(int b, int l) {
        if (!in(b, 0, buildings.size() - 1) || noMark(l)) return BAD;
        if (marks.size() == 24) return FULL;
        if (noLine(l)) return find(3);
        Building one = buildings.get(b);
        Mark line = marks.get(l);
        if (line.shown == NONE || one.taken || !line.cells.contains(one.cell)) return STATE;
        Mark m = add(3, l);
        Integer day = one.worths.floorKey(line.shown - 1);
        int worth = day == null ? one.firstWorth : one.worths.get(day);
        m.amount = (int) ((long) worth * now(2) / 100);
        one.taken = true;
        for (int p = 0; p < persons.size(); p++) {
            if (persons.get(p).home != b) continue;
            m.lived.add(p);
            persons.get(p).home = NONE;
        }
        tell(m.amount);
        return marks.size() - 1;
    }

    int moved(int t, int p, int b) {
        if (noMark(t) || !in(p, 0, persons.size() - 1) || !in(b, 0, buildings.size() - 1)) return BAD;
        if (marks.size() == 24) return FULL;
        if (marks.get(t).kind != 3) return find(3);
        if (!marks.get(t).lived.contains(p) || persons.get(p).home != NONE || !hasRoom(b)) return STATE;
        Mark m = add(4, t);
        m.amount = now(3);
        m.person = p;
        persons.get(p).home = b;
        tell(m.amount);
        return marks.size() - 1;
    }

    int grant(int tenths, int until) {
        if (!in(tenths, 1, 10) || !in(until, 0, 999)) return BAD;
        if (marks.size() == 24) return FULL;
        Mark m = add(5, NONE);
        m.amount = tenths;
        m.date = until;
        return marks.size() - 1;
    }

    int hearing(int l, int c, int hour, int day) {
        if (noMark(l) || !in(c, 0, 63) || !in(hour, 0, 23) || !in(day, 0, 999)) return BAD;
        if (marks.size() == 24) return FULL;
        if (noLine(l)) return find(3);
        if (day < today) return STATE;
        Mark m = add(6, l);
        m.cell = c;
        m.hour = hour;
        m.date = day;
        return marks.size() - 1;
    }

    private int toldOf(Mark m, int what) {
        return new int[] {m.kind, m.day, m.hangs}[what];
    }

    int told(int m, int what) {
        if (noMark(m) || !in(what, 0, 2)) return BAD;
        return tell(toldOf(marks.get(m), what));
    }

    private int come(Mark m) {
        int n = 0;
        for (Person p : persons) {
            if (p.home == NONE) continue;
            boolean goes = p.car || steps(buildings.get(p.home).cell, m.cell) < 7;
            boolean free = p.work == NONE || !in(m.hour, 9, 16);
            if (goes && free) n++;
        }
        return n;
    }

    int mark(int m, int kind) {
        if (noMark(m) || !in(kind, 1, 6)) return BAD;
        Mark one = marks.get(m);
        if (kind == 1 && one.isLine()) return one.cells.size();
        if (kind == 3 && (one.kind == 3 || one.kind == 4)) return one.amount;
        if (kind != one.kind) return find(3);
        if (kind == 2) return one.cells.get(0);
        if (kind == 4) return one.person;
        return kind == 5 ? one.amount : come(one);
    }

    int cost(int l) {
        if (noMark(l)) return BAD;
        return noLine(l) ? find(3) : marks.get(l).cost;
    }

    int shown(int l) {
        if (noMark(l)) return BAD;
        return noLine(l) ? find(3) : marks.get(l).shown;
    }

    int over(int l) {
        if (noMark(l)) return BAD;
        if (noLine(l)) return find(3);
        set = 0;
        for (int c : marks.get(l).cells) set |= 1L << c;
        return marks.get(l).cells.size();
    }

    // ---- who knew, where to go

    int buy(int b, int p) {
        if (!in(b, 0, buildings.size() - 1) || !in(p, 0, persons.size() - 1)) return BAD;
        if (buys.size() == 40) return FULL;
        if (buildings.get(b).taken) return STATE;
        buys.add(new int[] {b, p, today});
        buildings.get(b).buyer = p;
        return buys.size();
    }

    int hear(int p, int l) {
        if (!in(p, 0, persons.size() - 1) || noMark(l)) return BAD;
        if (noLine(l)) return find(3);
        for (int[] h : heards) {
            if (h[0] == p && h[1] == l) return h[2];
        }
        if (heards.size() == 60) return FULL;
        heards.add(new int[] {p, l, today});
        return today;
    }

    int early(int l) {
        if (noMark(l)) return BAD;
        if (noLine(l)) return find(3);
        int sure = 0, may = 0;
        for (int[] buy : buys) {
            if (!marks.get(l).cells.contains(buildings.get(buy[0]).cell)) continue;
            if (marks.get(l).shown != NONE && marks.get(l).shown <= buy[2]) continue;
            boolean knew = false, kinKnew = false;
            for (int[] h : heards) {
                if (h[1] != l || h[2] > buy[2]) continue;
                if (h[0] == buy[1]) knew = true;
                else if (persons.get(h[0]).kin == persons.get(buy[1]).kin) kinKnew = true;
            }
            if (knew) sure++;
            if (!knew && kinKnew) may++;
        }
        return 100 * sure + may;
    }

    /** All ways to lead them, house by house: of each set of those led the least sum. */
    int whither(int l) {
        if (noMark(l)) return BAD;
        if (noLine(l)) return find(3);
        List<Integer> cells = marks.get(l).cells;
        List<Person> out = new ArrayList<>();
        for (Person p : persons) {
            if (p.home != NONE && cells.contains(buildings.get(p.home).cell)) out.add(p);
        }
        if (out.size() > 9) throw new IllegalStateException("too many for all tries");
        int[] least = new int[1 << out.size()];
        Arrays.fill(least, 1000000);
        least[0] = 0;
        for (int b = 0; b < buildings.size(); b++) {
            if (!hasRoom(b) || cells.contains(buildings.get(b).cell)) continue;
            int rooms = buildings.get(b).rooms - live(b);
            int[] next = least.clone();
            for (int s = 0; s < least.length; s++) {
                for (int in = s; in > 0; in = in - 1 & s) {
                    if (Integer.bitCount(in) > rooms) continue;
                    int sum = least[s & ~in];
                    for (int i = 0; i < out.size(); i++) {
                        if ((in >> i & 1) == 1 && out.get(i).work != NONE) sum += steps(buildings.get(b).cell, out.get(i).work);
                    }
                    next[s] = Math.min(next[s], sum);
                }
            }
            least = next;
        }
        int led = 0, sum = 0;
        for (int s = 0; s < least.length; s++) {
            if (least[s] >= 1000000) continue;
            int n = Integer.bitCount(s);
            if (n > led || n == led && least[s] < sum) {
                led = n;
                sum = least[s];
            }
        }
        tell(sum);
        return led;
    }

    private int[] walk(int from, List<Integer> barred) {
        int[] far = new int[64];
        Arrays.fill(far, 1000);
        far[from] = 0;
        for (int round = 0; round < 64; round++) {
            for (int a = 0; a < 64; a++) {
                for (int c = 0; c < 64; c++) {
                    if (steps(a, c) == 1 && sort[c] != 4 && !barred.contains(c)) far[c] = Math.min(far[c], far[a] + 1);
                }
            }
        }
        return far;
    }

    int fall(int l, int n) {
        if (noMark(l) || !in(n, 0, 20)) return BAD;
        if (noLine(l)) return find(3);
        List<Integer> cells = marks.get(l).cells;
        List<Integer> open = new ArrayList<>();
        for (int b = 0; b < buildings.size(); b++) {
            Building one = buildings.get(b);
            if (one.use == 1 && !one.taken && !cells.contains(one.cell)) open.add(b);
        }
        int[][] far = new int[buildings.size()][];
        for (int b = 0; b < buildings.size(); b++) {
            if (live(b) > 0 && !cells.contains(buildings.get(b).cell)) far[b] = walk(buildings.get(b).cell, cells);
        }
        List<Integer> closed = new ArrayList<>();
        for (int week = 0; week < n; week++) {
            int[] walkers = new int[buildings.size()];
            for (Person p : persons) {
                if (p.home == NONE || far[p.home] == null) continue;
                int best = NONE, steps = 1000;
                for (int b : open) {
                    int d = far[p.home][buildings.get(b).cell];
                    if (d < steps) {
                        best = b;
                        steps = d;
                    }
                }
                if (best != NONE) walkers[best]++;
            }
            for (int b = 0; b < buildings.size(); b++) {
                if (open.contains(b) && walkers[b] < now(4)) {
                    open.remove((Integer) b);
                    closed.add(b);
                }
            }
        }
        set = 0;
        for (int b : closed) set |= 1L << b;
        return closed.size();
    }

    private int noiseAt(int c, int l, int r) {
        int d = 100;
        for (int k : marks.get(l).cells) d = Math.min(d, steps(c, k));
        return d < rows[r].length ? rows[r][d] : 0;
    }

    private int[] loud(int l, int r) {
        int houses = 0, live = 0;
        for (int b = 0; b < buildings.size(); b++) {
            Building one = buildings.get(b);
            if (one.taken || one.use != 0 || noiseAt(one.cell, l, r) <= now(5)) continue;
            houses++;
            live += live(b);
        }
        return new int[] {houses, live};
    }

    int noise(int l, int r) {
        if (noMark(l) || !in(r, 0, 5)) return BAD;
        if (noLine(l)) return find(3);
        if (rows[r] == null) return find(1);
        tell(loud(l, r)[1]);
        return loud(l, r)[0];
    }

    private int parks(int l) {
        int n = 0;
        for (int c : marks.get(l).cells) {
            if (sort[c] == 2) n++;
        }
        return n;
    }

    int park(int l) {
        if (noMark(l)) return BAD;
        if (noLine(l)) return find(3);
        tell(parks(l));
        return parks(l) > now(6) ? 0 : 1;
    }

    private boolean isVoid(Mark m) {
        if (m.kind == 6) return m.date - m.day < forceOf(7, m.day, m.day) || come(m) == 0;
        for (Mark h : marks) {
            if (h.kind == 6 && h.hangs == m.hangs && h.date <= m.day && !isVoid(h)) return false;
        }
        return true;
    }

    int isVoid(int m) {
        if (noMark(m)) return BAD;
        int kind = marks.get(m).kind;
        if (kind != 3 && kind != 6) return find(3);
        return isVoid(marks.get(m)) ? 1 : 0;
    }

    int owed() {
        coins = 0;
        int n = 0;
        for (Mark m : marks) {
            if (m.kind == 3 || m.kind == 4) coins += m.amount;
            if (m.kind == 3 && isVoid(m)) n++;
        }
        return n;
    }

    // ---- acts, stops, judges

    private static int endOf(int i, int[] days, int[][] ahead, int depth) {
        if (depth > 13) return -1;
        int begin = 0;
        for (int k : ahead[i]) {
            int end = k == NONE ? 0 : endOf(k, days, ahead, depth + 1);
            if (end < 0) return -1;
            begin = Math.max(begin, end);
        }
        return begin + days[i];
    }

    private static int endOfAll(int[] days, int[][] ahead) {
        int end = 0;
        for (int i = 0; i < days.length; i++) end = Math.max(end, endOf(i, days, ahead, 0));
        return end;
    }

    int acts(int r) {
        if (!in(r, 0, 5)) return BAD;
        if (rows[r] == null) return find(1);
        int n = rows[r].length / 3;
        if (rows[r].length != 3 * n || n < 1 || n > 13) return find(5);
        int[] days = new int[n];
        int[][] ahead = new int[n][];
        for (int i = 0; i < n; i++) {
            days[i] = rows[r][3 * i];
            ahead[i] = new int[] {rows[r][3 * i + 1], rows[r][3 * i + 2]};
            if (!in(days[i], 0, 200)) return find(3);
            for (int k : ahead[i]) {
                if (k != NONE && !in(k, 0, n - 1)) return find(3);
            }
        }
        for (int i = 0; i < n; i++) {
            if (endOf(i, days, ahead, 0) < 0) return find(3);
        }
        ends = new int[n];
        laters = new int[n];
        int end = endOfAll(days, ahead);
        for (int i = 0; i < n; i++) {
            ends[i] = today + endOf(i, days, ahead, 0);
            int took = days[i];
            while (endOfAll(days, ahead) == end) days[i]++;
            laters[i] = days[i] - 1 - took;
            days[i] = took;
        }
        planEnd = today + end;
        return planEnd;
    }

    int act(int i) {
        if (ends == null || !in(i, 0, ends.length - 1)) return NONE;
        tell(laters[i]);
        return ends[i];
    }

    int grants(int g, int l) {
        if (noMark(g) || noMark(l)) return BAD;
        if (marks.get(g).kind != 5 || noLine(l)) return find(3);
        tell(marks.get(g).date - (ends == null ? today : planEnd));
        coins = asked < 0 ? 0 : marks.get(l).cost * marks.get(g).amount / 10;
        return asked < 0 ? 0 : 1;
    }

    /** A shortest way from a, not by the cells broken; null: none. Then all that can be come to is in seen. */
    private List<Integer> wayBy(int a, int b, long broken, List<Integer> seen) {
        int[] from = new int[64];
        Arrays.fill(from, NONE);
        from[a] = a;
        seen.add(a);
        for (int i = 0; i < seen.size(); i++) {
            for (int c = 0; c < 64; c++) {
                if (from[c] != NONE || (broken >> c & 1) == 1 || !mayStep(seen.get(i), c)) continue;
                from[c] = seen.get(i);
                seen.add(c);
            }
        }
        if (from[b] == NONE) return null;
        List<Integer> way = new ArrayList<>();
        for (int c = b; c != a; c = from[c]) way.add(c);
        return way;
    }

    private long nearest;
    private int nearestSize;

    /** Any set that stops it must break each way that is left: tries all that do so by as many as told. */
    private void tryStops(int a, int b, long broken, int left) {
        List<Integer> seen = new ArrayList<>();
        List<Integer> way = wayBy(a, b, broken, seen);
        if (way == null) {
            if (seen.size() < nearestSize) {
                nearestSize = seen.size();
                nearest = broken;
            }
            return;
        }
        if (left == 0) return;
        for (int c : way) {
            if (c != b && standing(c) != null) tryStops(a, b, broken | 1L << c, left - 1);
        }
    }

    int stop(int a, int b) {
        if (!in(a, 0, 63) || !in(b, 0, 63) || a == b) return BAD;
        if (sort[a] == 4 || sort[b] == 4) return STATE;
        if (wayBy(a, b, 0, new ArrayList<>()) == null) return find(1);
        long all = 0;
        for (Building one : buildings) {
            if (!one.taken && one.cell != a && one.cell != b) all |= 1L << one.cell;
        }
        if (wayBy(a, b, all, new ArrayList<>()) != null) return NONE;
        nearestSize = 100;
        for (int n = 1; nearestSize == 100; n++) tryStops(a, b, 0, n);
        set = nearest;
        return Long.bitCount(set);
    }

    private int weightsFault(int weights, int noises) {
        if (rows[weights] == null || rows[noises] == null) return 1;
        if (rows[weights].length != 4) return 5;
        for (int w : rows[weights]) {
            if (!in(w, 0, 100)) return 3;
        }
        return 0;
    }

    private int weigh(int l, int weights, int noises) {
        int live = 0;
        for (Person p : persons) {
            if (p.home != NONE && marks.get(l).cells.contains(buildings.get(p.home).cell)) live++;
        }
        int[] w = rows[weights];
        return marks.get(l).cost * w[0] + live * w[1] + parks(l) * w[2] + loud(l, noises)[0] * w[3];
    }

    int judge(int l, int weights, int noises) {
        if (noMark(l) || !in(weights, 0, 5) || !in(noises, 0, 5)) return BAD;
        if (noLine(l)) return find(3);
        int f = weightsFault(weights, noises);
        return f != 0 ? find(f) : tell(weigh(l, weights, noises));
    }

    int best(int weights, int noises) {
        if (!in(weights, 0, 5) || !in(noises, 0, 5)) return BAD;
        int f = weightsFault(weights, noises);
        if (f != 0) return find(f);
        int best = NONE;
        for (int m = 0; m < marks.size(); m++) {
            if (marks.get(m).kind != 1) continue;
            if (best == NONE || weigh(m, weights, noises) < weigh(best, weights, noises)) best = m;
        }
        if (best != NONE) tell(weigh(best, weights, noises));
        return best;
    }

    // ---- what is told

    int count(int what) {
        int n = 0;
        switch (what) {
            case 0: return today;
            case 1:
                for (Building b : buildings) n += b.taken ? 0 : 1;
                return n;
            case 2: return persons.size();
            case 3: return live(NONE);
            case 4: return rules.size();
            case 5: return marks.size();
            case 6: return buys.size();
            case 7: return tellings;
            case 8:
                for (int[] row : rows) n += row == null ? 0 : 1;
                return n;
            case 9:
                for (byte[] text : texts) n += text == null ? 0 : 1;
                return n;
            default: return BAD;
        }
    }

    int findings(int f) {
        return in(f, 1, 5) ? findings[f] : BAD;
    }

    long digest() {
        List<Integer> all = new ArrayList<>();
        for (int what = 0; what < 10; what++) all.add(count(what));
        for (int c = 0; c < 64; c++) {
            all.add(sort[c]);
            all.add(height[c]);
        }
        for (int b = 0; b < buildings.size(); b++) {
            for (int what = 0; what < 6; what++) all.add(houseOf(b, what));
            all.add(worthNow(buildings.get(b)));
        }
        for (int p = 0; p < persons.size(); p++) {
            for (int what = 0; what < 4; what++) all.add(whoOf(p, what));
        }
        for (Rule r : rules) {
            all.add(r.told);
            all.add(r.from);
        }
        for (Mark m : marks) {
            for (int what = 0; what < 3; what++) all.add(toldOf(m, what));
            if (!m.isLine()) continue;
            all.add(m.cost);
            all.add(m.shown);
            all.addAll(m.cells);
        }
        for (int[] row : rows) {
            all.add(row == null ? -1 : row.length);
            for (int i = 0; row != null && i < row.length; i++) all.add(row[i]);
        }
        for (byte[] text : texts) {
            all.add(text == null ? -1 : text.length);
            for (int i = 0; text != null && i < text.length; i++) all.add((int) text[i]);
        }
        long h = 17;
        for (int v : all) h = 31 * h + v;
        return h;
    }
}
