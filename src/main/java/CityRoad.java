import java.util.Arrays;

/**
 * A road through the city, as ../shared/DOC.md tells it: cells, buildings, persons, rules,
 * lines and what comes of them. Words in capitals in the comments are the document's terms.
 */
public final class CityRoad {
    public static final int BAD = -1, FULL = -2, FINDING = -3, STATE = -4, NONE = -9;

    private static final int NOTHING = 1, BEYOND = 2, UNLIKE = 3, NOUGHT = 4, SIZE = 5;
    private static final int PARK = 2, WATER = 4;
    private static final int HOUSE = 0, SHOP = 1;
    private static final int LINE = 1, RAMP = 2, TAKING = 3, MOVED = 4, GRANT = 5, HEARING = 6;
    private static final int SLOPE = 0, DROP = 1, PAID = 2, OWED = 3, WALKERS = 4, NOISE = 5, PARKS = 6, CALL = 7;
    private static final int LAST_DAY = 999;

    private final Shelf rows;
    private final Shelf texts;
    private final Ground ground;
    private final Buildings buildings;
    private final Persons persons;
    private final Rules rules;
    private final Marks marks;
    private final Dealings dealings;
    private final WaySearch ways;
    private final Rehousing rehousing;
    private final Acts plan;
    private final Stopper stopper;
    private final int[] findingCounts;
    private int today;
    private int asked;
    private long coins;
    private long set;
    private int finding;

    public CityRoad() {
        rows = new Shelf(6, 0);
        texts = new Shelf(4, Rules.BLANK);
        ground = new Ground();
        buildings = new Buildings();
        persons = new Persons();
        rules = new Rules();
        marks = new Marks();
        dealings = new Dealings();
        ways = new WaySearch();
        rehousing = new Rehousing();
        plan = new Acts();
        stopper = new Stopper();
        findingCounts = new int[6];
    }

    // ---- 1 rows, texts, cells

    public int row(int r, int n) {
        if (!rows.exists(r) || n > Shelf.LENGTH) return BAD;
        if (n < 0) return found(SIZE);
        rows.layOut(r, n);
        return n;
    }

    public int lay(int r, int i, int v) {
        if (!rows.exists(r)) return BAD;
        if (!rows.isThere(r)) return found(NOTHING);
        if (!rows.holds(r, i)) return found(BEYOND);
        return tell(rows.exchange(r, i, v));
    }

    public int tear(int r) {
        if (!rows.exists(r)) return BAD;
        if (!rows.isThere(r)) return found(NOTHING);
        rows.remove(r);
        return 1;
    }

    public int copy(int r, int i, int to, int j, int n) {
        if (!rows.exists(r) || !rows.exists(to)) return BAD;
        if (n < 0) return found(SIZE);
        if (!rows.isThere(r) || !rows.isThere(to)) return found(NOTHING);
        if (!rows.holdsFrom(r, i, n) || !rows.holdsFrom(to, j, n)) return found(BEYOND);
        rows.transfer(r, i, to, j, n);
        return 1;
    }

    public int text(int t, int n) {
        if (!texts.exists(t) || n > Shelf.LENGTH) return BAD;
        if (n < 0) return found(SIZE);
        texts.layOut(t, n);
        return n;
    }

    public int put(int t, int i, int v) {
        if (!texts.exists(t)) return BAD;
        if (!texts.isThere(t)) return found(NOTHING);
        if (!texts.holds(t, i)) return found(BEYOND);
        return texts.exchange(t, i, (byte) v) + 1000;
    }

    public int fault(int t) {
        if (!texts.exists(t)) return BAD;
        if (!texts.isThere(t)) return found(NOTHING);
        return Rules.firstFault(texts, t);
    }

    public int later(int n) {
        if (n < 0 || n > LAST_DAY - today) return BAD;
        today += n;
        return today;
    }

    public int cell(int c, int sort, int height) {
        if (!Ground.isCell(c) || sort < 0 || sort > WATER || height < 0 || height > 99) return BAD;
        if (sort == WATER && buildings.standingOn(c) != NONE) return STATE;
        ground.change(c, sort, height);
        return 1;
    }

    public int building(int c, int use, int rooms, int worth) {
        if (!Ground.isCell(c) || !Buildings.isUse(use) || rooms < 0 || rooms > 20 || !Buildings.isWorth(worth)) return BAD;
        if (buildings.number() >= Buildings.MOST || buildings.tellingsLeft() < 1) return FULL;
        if (ground.isWater(c) || buildings.standingOn(c) != NONE) return STATE;
        return buildings.add(c, use, rooms, worth, today);
    }

    public int worth(int b, int v) {
        if (!buildings.exists(b) || !Buildings.isWorth(v)) return BAD;
        if (buildings.isTaken(b)) return STATE;
        if (buildings.tellingsLeft() < 1) return FULL;
        int before = buildings.latestWorth(b);
        buildings.assess(b, v, today);
        return before;
    }

    public int value(int b, int day) {
        if (!buildings.exists(b) || !isDay(day)) return BAD;
        return buildings.worthBy(b, day);
    }

    public int house(int b, int what) {
        if (!buildings.exists(b) || what < 0 || what > 5) return BAD;
        return tell(buildings.trait(b, what));
    }

    public int person(int home, int work, boolean car, int kin) {
        if (home != NONE && !buildings.exists(home)) return BAD;
        if (work != NONE && !Ground.isCell(work)) return BAD;
        if (kin < 0 || kin > 9) return BAD;
        if (persons.number() >= Persons.MOST) return FULL;
        if (home != NONE && buildings.roomsLeft(home) < 1) return STATE;
        int p = persons.add(work, car, kin);
        if (home != NONE) settle(p, home);
        return p;
    }

    public int who(int p, int what) {
        if (!persons.exists(p) || what < 0 || what > 3) return BAD;
        return tell(persons.trait(p, what));
    }

    public int mean(int use) {
        if (!Buildings.isUse(use)) return BAD;
        int number = 0;
        int sum = 0;
        for (int b = 0; b < buildings.number(); b++) {
            if (!buildings.stands(b, use)) continue;
            number++;
            sum += buildings.latestWorth(b);
        }
        if (number == 0) return found(NOUGHT);
        return tell(sum / number);
    }

    // ---- 2 rules

    public int rule(int t, int from) {
        if (!texts.exists(t) || !isDay(from)) return BAD;
        if (rules.number() >= Rules.MOST) return FULL;
        if (!texts.isThere(t)) return found(NOTHING);
        if (Rules.firstFault(texts, t) != NONE) return STATE;
        return rules.add(texts, t, today, from);
    }

    public int force(int what, int day, int known) {
        if (!Rules.isLetter(what) || !isDay(day) || !isDay(known)) return BAD;
        return rules.valueFor(what, day, known);
    }

    public int why(int what, int day, int known) {
        if (!Rules.isLetter(what) || !isDay(day) || !isDay(known)) return BAD;
        return rules.deciding(what, day, known);
    }

    // ---- 3 marks

    public int line(int a, int b, int r) {
        if (!Ground.isCell(a) || !Ground.isCell(b) || a == b || !rows.exists(r)) return BAD;
        if (marks.number() >= Marks.MOST) return FULL;
        if (!rows.isThere(r)) return found(NOTHING);
        if (rows.sizeOf(r) != 4) return found(SIZE);
        if (!rows.allWithin(r, 0, 1000)) return found(UNLIKE);
        if (ground.isWater(a) || ground.isWater(b)) return STATE;
        setPrices(r);
        if (!ways.find(ground, inForce(SLOPE), a, b)) return found(NOTHING);
        int m = marks.add(LINE, today, NONE);
        marks.route(m, ways.path, ways.length, ways.total);
        return m;
    }

    public int ramp(int l, int c) {
        if (!marks.exists(l) || !Ground.isCell(c)) return BAD;
        if (marks.number() >= Marks.MOST) return FULL;
        if (!marks.isOf(l, LINE)) return found(UNLIKE);
        long cells = marks.cells(l);
        boolean beside = Ground.has(Ground.spread(cells), c) && !Ground.has(cells, c);
        if (ground.isWater(c) || !beside) return STATE;
        int m = marks.add(RAMP, today, l);
        marks.routeOf(m, c);
        return m;
    }

    public int cellOf(int l, int i) {
        if (!marks.exists(l)) return BAD;
        if (!marks.isOf(l, LINE)) return found(UNLIKE);
        return marks.cellAt(l, i);
    }

    public int show(int l) {
        if (!marks.exists(l)) return BAD;
        if (!marks.isOf(l, LINE)) return found(UNLIKE);
        if (marks.shownOn(l) != NONE) return STATE;
        long near = Ground.around(marks.cells(l));
        int number = buildings.standingIn(near);
        if (number > buildings.tellingsLeft()) return FULL;
        int drop = inForce(DROP);
        for (int b = 0; b < buildings.number(); b++) {
            if (buildings.isTaken(b) || !Ground.has(near, buildings.cellOfOne(b))) continue;
            buildings.assess(b, lowered(buildings.latestWorth(b), drop), today);
        }
        marks.showOn(l, today);
        return number;
    }

    public int take(int b, int l) {
        if (!buildings.exists(b) || !marks.exists(l)) return BAD;
        if (marks.number() >= Marks.MOST) return FULL;
        if (!marks.isOf(l, LINE)) return found(UNLIKE);
        int shown = marks.shownOn(l);
        if (shown == NONE || buildings.isTaken(b) || !Ground.has(marks.cells(l), buildings.cellOfOne(b))) return STATE;
        int worth = buildings.worthBy(b, shown - 1);
        if (worth == NONE) worth = buildings.firstWorth(b);
        int paid = worth * inForce(PAID) / 100;
        int m = marks.add(TAKING, today, l);
        marks.setTaking(m, paid, persons.turnOut(b));
        buildings.remove(b);
        tell(paid);
        return m;
    }

    public int moved(int t, int p, int b) {
        if (!marks.exists(t) || !persons.exists(p) || !buildings.exists(b)) return BAD;
        if (marks.number() >= Marks.MOST) return FULL;
        if (marks.kindOf(t) != TAKING) return found(UNLIKE);
        if (!marks.livedThere(t, p) || persons.homeOf(p) != NONE || buildings.roomsLeft(b) < 1) return STATE;
        int owing = inForce(OWED);
        int m = marks.add(MOVED, today, t);
        marks.setMoved(m, owing, p);
        settle(p, b);
        tell(owing);
        return m;
    }

    public int grant(int tenths, int until) {
        if (tenths < 1 || tenths > 10 || !isDay(until)) return BAD;
        if (marks.number() >= Marks.MOST) return FULL;
        int m = marks.add(GRANT, today, NONE);
        marks.setGrant(m, tenths, until);
        return m;
    }

    public int hearing(int l, int c, int hour, int day) {
        if (!marks.exists(l) || !Ground.isCell(c) || hour < 0 || hour > 23 || !isDay(day)) return BAD;
        if (marks.number() >= Marks.MOST) return FULL;
        if (!marks.isOf(l, LINE)) return found(UNLIKE);
        if (day < today) return STATE;
        int m = marks.add(HEARING, today, l);
        marks.setHearing(m, c, hour, day);
        return m;
    }

    public int told(int m, int what) {
        if (!marks.exists(m) || what < 0 || what > 2) return BAD;
        return tell(marks.trait(m, what));
    }

    public int mark(int m, int kind) {
        if (!marks.exists(m) || kind < LINE || kind > HEARING) return BAD;
        if (!marks.isOf(m, kind)) return found(UNLIKE);
        switch (kind) {
            case LINE: return marks.lengthOf(m);
            case RAMP: return marks.cellAt(m, 0);
            case MOVED: return marks.partyOf(m);
            case HEARING: return couldCome(m);
            default: return marks.amountOf(m);
        }
    }

    public int cost(int l) {
        if (!marks.exists(l)) return BAD;
        if (!marks.isOf(l, LINE)) return found(UNLIKE);
        return marks.costOf(l);
    }

    public int shown(int l) {
        if (!marks.exists(l)) return BAD;
        if (!marks.isOf(l, LINE)) return found(UNLIKE);
        return marks.shownOn(l);
    }

    public int over(int l) {
        if (!marks.exists(l)) return BAD;
        if (!marks.isOf(l, LINE)) return found(UNLIKE);
        set = marks.cells(l);
        return marks.lengthOf(l);
    }

    // ---- 4 who knew, where to go

    public int buy(int b, int p) {
        if (!buildings.exists(b) || !persons.exists(p)) return BAD;
        if (dealings.buys() >= Dealings.MOST_BUYS) return FULL;
        if (buildings.isTaken(b)) return STATE;
        buildings.setBuyer(b, p);
        return dealings.addBuy(b, p, today);
    }

    public int hear(int p, int l) {
        if (!persons.exists(p) || !marks.exists(l)) return BAD;
        if (!marks.isOf(l, LINE)) return found(UNLIKE);
        int before = dealings.heardOn(p, l);
        if (before != NONE) return before;
        if (dealings.heards() >= Dealings.MOST_HEARDS) return FULL;
        dealings.addHeard(p, l, today);
        return today;
    }

    public int early(int l) {
        if (!marks.exists(l)) return BAD;
        if (!marks.isOf(l, LINE)) return found(UNLIKE);
        int sure = 0;
        int may = 0;
        for (int i = 0; i < dealings.buys(); i++) {
            if (!isEarly(i, l)) continue;
            if (dealings.buyerHeard(i, l)) sure++;
            else if (dealings.kinHeard(persons, i, l)) may++;
        }
        return 100 * sure + may;
    }

    public int whither(int l) {
        if (!marks.exists(l)) return BAD;
        if (!marks.isOf(l, LINE)) return found(UNLIKE);
        rehousing.lead(buildings, persons, marks.cells(l));
        tell(rehousing.sum);
        return rehousing.led;
    }

    public int fall(int l, int n) {
        if (!marks.exists(l) || n < 0 || n > 20) return BAD;
        if (!marks.isOf(l, LINE)) return found(UNLIKE);
        long barred = marks.cells(l);
        int fewest = inForce(WALKERS);
        long atFirst = buildings.off(barred, SHOP);
        long open = atFirst;
        for (int week = 0; week < n; week++) {
            long left = buildings.shopsLeft(open, barred, ~(barred | ground.water()), fewest);
            if (left == open) break;
            open = left;
        }
        set = atFirst & ~open;
        return Long.bitCount(set);
    }

    public int noise(int l, int r) {
        if (!marks.exists(l) || !rows.exists(r)) return BAD;
        if (!marks.isOf(l, LINE)) return found(UNLIKE);
        if (!rows.isThere(r)) return found(NOTHING);
        long loud = loudCells(l, r);
        tell(buildings.dwellersIn(loud));
        return buildings.housesIn(loud);
    }

    public int park(int l) {
        if (!marks.exists(l)) return BAD;
        if (!marks.isOf(l, LINE)) return found(UNLIKE);
        int number = ground.parksIn(marks.cells(l));
        tell(number);
        return number <= inForce(PARKS) ? 1 : 0;
    }

    public int isVoid(int m) {
        if (!marks.exists(m)) return BAD;
        int kind = marks.kindOf(m);
        if (kind == HEARING) return isVoidHearing(m) ? 1 : 0;
        if (kind == TAKING) return isVoidTaking(m) ? 1 : 0;
        return found(UNLIKE);
    }

    public int owed() {
        long sum = 0;
        int voids = 0;
        for (int m = 0; m < marks.number(); m++) {
            if (!marks.isOf(m, TAKING)) continue;
            sum += marks.amountOf(m);
            if (marks.kindOf(m) == TAKING && isVoidTaking(m)) voids++;
        }
        coins = sum;
        return voids;
    }

    public long coins() {
        return coins;
    }

    // ---- 5 acts, stops, judges

    public int acts(int r) {
        if (!rows.exists(r)) return BAD;
        if (!rows.isThere(r)) return found(NOTHING);
        int size = rows.sizeOf(r);
        if (size % 3 != 0 || size < 3 || size > 3 * Acts.MOST) return found(SIZE);
        if (!plan.draw(rows, r, today)) return found(UNLIKE);
        return plan.end;
    }

    public int act(int i) {
        if (!plan.exists(i)) return NONE;
        tell(plan.laterBy(i));
        return plan.endOf(i);
    }

    public int grants(int g, int l) {
        if (!marks.exists(g) || !marks.exists(l)) return BAD;
        if (!marks.isOf(g, GRANT) || !marks.isOf(l, LINE)) return found(UNLIKE);
        int end = plan.number > 0 ? plan.end : today;
        int left = marks.dateOf(g) - end;
        tell(left);
        coins = left >= 0 ? (long) marks.costOf(l) * marks.amountOf(g) / 10 : 0;
        return left >= 0 ? 1 : 0;
    }

    public int stop(int a, int b) {
        if (!Ground.isCell(a) || !Ground.isCell(b) || a == b) return BAD;
        if (ground.isWater(a) || ground.isWater(b)) return STATE;
        stopper.survey(ground, inForce(SLOPE));
        if (!stopper.connects(a, b, 0)) return found(NOTHING);
        long breakable = buildings.standingCells() & ~(Ground.bit(a) | Ground.bit(b));
        if (stopper.connects(a, b, breakable)) return NONE;
        set = stopper.nearestCut(a, b, breakable);
        return Long.bitCount(set);
    }

    public int judge(int l, int weights, int noises) {
        if (!marks.exists(l) || !rows.exists(weights) || !rows.exists(noises)) return BAD;
        if (!marks.isOf(l, LINE)) return found(UNLIKE);
        int fault = weighingFault(weights, noises);
        if (fault != 0) return found(fault);
        return tell(weigh(l, weights, noises));
    }

    public int best(int weights, int noises) {
        if (!rows.exists(weights) || !rows.exists(noises)) return BAD;
        int fault = weighingFault(weights, noises);
        if (fault != 0) return found(fault);
        int least = NONE;
        int leastSum = 0;
        for (int m = 0; m < marks.number(); m++) {
            if (marks.kindOf(m) != LINE) continue;
            int sum = weigh(m, weights, noises);
            if (least != NONE && sum >= leastSum) continue;
            least = m;
            leastSum = sum;
        }
        if (least != NONE) tell(leastSum);
        return least;
    }

    // ---- 6 what is told

    public int asked() {
        return asked;
    }

    public long set() {
        return set;
    }

    public int count(int what) {
        switch (what) {
            case 0: return today;
            case 1: return buildings.standingIn(-1L);
            case 2: return persons.number();
            case 3: return persons.homeless();
            case 4: return rules.number();
            case 5: return marks.number();
            case 6: return dealings.buys();
            case 7: return buildings.tellings();
            case 8: return rows.present();
            case 9: return texts.present();
            default: return BAD;
        }
    }

    public int finding() {
        return finding;
    }

    public int findings(int f) {
        if (f < NOTHING || f > SIZE) return BAD;
        return findingCounts[f];
    }

    public long digest() {
        long h = 17;
        for (int what = 0; what <= 9; what++) h = 31 * h + count(what);
        h = ground.hash(h);
        h = buildings.hash(h);
        h = persons.hash(h);
        h = rules.hash(h);
        h = marks.hash(h);
        h = rows.hash(h);
        return texts.hash(h);
    }

    // ---- what several calls share

    private int found(int what) {
        finding = what;
        findingCounts[what]++;
        return FINDING;
    }

    private int tell(int what) {
        asked = what;
        return 1;
    }

    private static boolean isDay(int day) {
        return day >= 0 && day <= LAST_DAY;
    }

    private int inForce(int letter) {
        return rules.valueFor(letter, today, today);
    }

    private void settle(int p, int b) {
        persons.setHome(p, b);
        buildings.enter(b);
    }

    private void setPrices(int r) {
        for (int c = 0; c < Ground.CELLS; c++) {
            int b = buildings.standingOn(c);
            int price = ground.isWater(c) ? 0 : rows.at(r, ground.sortOf(c));
            if (b != NONE) price += buildings.latestWorth(b) / 100;
            ways.prices[c] = price;
        }
    }

    /** The whole difference is cut, not what is taken off: "it less F in a hundred of it, cut". */
    private static int lowered(int worth, int drop) {
        return Math.max(1, worth * (100 - drop) / 100);
    }

    private boolean isEarly(int buy, int l) {
        int shown = marks.shownOn(l);
        if (shown != NONE && dealings.dayOfBuy(buy) >= shown) return false;
        return Ground.has(marks.cells(l), buildings.cellOfOne(dealings.bought(buy)));
    }

    private long loudCells(int l, int r) {
        int limit = inForce(NOISE);
        long loud = 0;
        long nearer = 0;
        long reached = marks.cells(l);
        for (int steps = 0; steps < rows.sizeOf(r) && steps <= Ground.FARTHEST; steps++) {
            if (rows.at(r, steps) > limit) loud |= reached & ~nearer;
            nearer = reached;
            reached = Ground.spread(reached);
        }
        return loud;
    }

    private int couldCome(int m) {
        int number = 0;
        for (int p = 0; p < persons.number(); p++) {
            int home = persons.homeOf(p);
            if (home == NONE) continue;
            int steps = Ground.steps(buildings.cellOfOne(home), marks.partyOf(m));
            if (persons.canCome(p, steps, marks.hourOf(m))) number++;
        }
        return number;
    }

    private boolean isVoidHearing(int m) {
        int called = marks.dayOf(m);
        if (marks.dateOf(m) - called < rules.valueFor(CALL, called, called)) return true;
        return couldCome(m) == 0;
    }

    private boolean isVoidTaking(int m) {
        for (int h = 0; h < marks.number(); h++) {
            if (marks.kindOf(h) != HEARING || marks.hangsOn(h) != marks.hangsOn(m)) continue;
            if (marks.dateOf(h) <= marks.dayOf(m) && !isVoidHearing(h)) return false;
        }
        return true;
    }

    /** 0: none. */
    private int weighingFault(int weights, int noises) {
        if (!rows.isThere(weights) || !rows.isThere(noises)) return NOTHING;
        if (rows.sizeOf(weights) != 4) return SIZE;
        if (!rows.allWithin(weights, 0, 100)) return UNLIKE;
        return 0;
    }

    private int weigh(int l, int weights, int noises) {
        long cells = marks.cells(l);
        return rows.at(weights, 0) * marks.costOf(l)
            + rows.at(weights, 1) * buildings.dwellersIn(cells)
            + rows.at(weights, 2) * ground.parksIn(cells)
            + rows.at(weights, 3) * buildings.housesIn(loudCells(l, noises));
    }

    /** ROWS, or TEXTS: some rows of up to 40 numbers, each there or missing. */
    static final class Shelf {
        static final int LENGTH = 40, MOST = 6, MISSING = -1;
        private final int rows;
        private final int blank;
        private final int[] sizes = new int[MOST];
        private final int[] places = new int[MOST * LENGTH];

        Shelf(int rows, int blank) {
            this.rows = Math.min(rows, MOST);
            this.blank = blank;
            Arrays.fill(sizes, MISSING);
        }

        boolean exists(int r) {
            return r >= 0 && r < rows;
        }

        boolean isThere(int r) {
            return sizes[r] != MISSING;
        }

        boolean holds(int r, int i) {
            return i >= 0 && i < sizes[r];
        }

        boolean holdsFrom(int r, int i, int n) {
            return i >= 0 && i <= sizes[r] - n;
        }

        int sizeOf(int r) {
            return sizes[r];
        }

        int at(int r, int i) {
            return places[r * LENGTH + i];
        }

        int exchange(int r, int i, int v) {
            int before = places[r * LENGTH + i];
            places[r * LENGTH + i] = v;
            return before;
        }

        void layOut(int r, int n) {
            sizes[r] = n;
            Arrays.fill(places, r * LENGTH, r * LENGTH + n, blank);
        }

        void remove(int r) {
            sizes[r] = MISSING;
        }

        void transfer(int r, int i, int to, int j, int n) {
            System.arraycopy(places, r * LENGTH + i, places, to * LENGTH + j, n);
        }

        boolean allWithin(int r, int least, int most) {
            for (int i = 0; i < sizes[r]; i++) {
                if (at(r, i) < least || at(r, i) > most) return false;
            }
            return true;
        }

        int present() {
            int number = 0;
            for (int r = 0; r < rows; r++) {
                if (isThere(r)) number++;
            }
            return number;
        }

        long hash(long h) {
            for (int r = 0; r < rows; r++) {
                h = 31 * h + sizes[r];
                for (int i = 0; i < sizes[r]; i++) h = 31 * h + at(r, i);
            }
            return h;
        }
    }

    /** The CELLS, with their SORTS and HEIGHTS; sets of CELLS are 64 bits. */
    static final class Ground {
        static final int CELLS = 64, WAYS = 4, FARTHEST = 14;
        private static final long FIRST_COLUMN = 0x0101010101010101L;
        private static final long LAST_COLUMN = 0x8080808080808080L;
        private final int[] sorts = new int[CELLS];
        private final int[] heights = new int[CELLS];

        static boolean isCell(int c) {
            return c >= 0 && c < CELLS;
        }

        static long bit(int c) {
            return 1L << c;
        }

        static boolean has(long cells, int c) {
            return (cells >>> c & 1) == 1;
        }

        static int steps(int a, int b) {
            return Math.abs(a % 8 - b % 8) + Math.abs(a / 8 - b / 8);
        }

        /** The ways are in the order of the CELLS to which they lead, so that the first one is the least. */
        static int beside(int c, int way) {
            switch (way) {
                case 0: return c >= 8 ? c - 8 : NONE;
                case 1: return c % 8 > 0 ? c - 1 : NONE;
                case 2: return c % 8 < 7 ? c + 1 : NONE;
                default: return c < 56 ? c + 8 : NONE;
            }
        }

        static int wayTo(int from, int to) {
            if (to == from - 8) return 0;
            if (to == from - 1) return 1;
            return to == from + 1 ? 2 : 3;
        }

        static int back(int way) {
            return 3 - way;
        }

        static long spread(long cells) {
            return spreadAside(cells) | cells >>> 8 | cells << 8;
        }

        /** Within 2 by x and by y. */
        static long around(long cells) {
            long wide = spreadAside(spreadAside(cells));
            return wide | wide >>> 8 | wide >>> 16 | wide << 8 | wide << 16;
        }

        private static long spreadAside(long cells) {
            return cells | (cells & ~FIRST_COLUMN) >>> 1 | (cells & ~LAST_COLUMN) << 1;
        }

        void change(int c, int sort, int height) {
            sorts[c] = sort;
            heights[c] = height;
        }

        int sortOf(int c) {
            return sorts[c];
        }

        boolean isWater(int c) {
            return sorts[c] == WATER;
        }

        int slope(int a, int b) {
            return Math.abs(heights[a] - heights[b]);
        }

        /** The NEIGHBOUR to which a step that way may go; NONE: it may not. */
        int onward(int c, int way, int steepest) {
            int next = beside(c, way);
            if (next == NONE || isWater(next) || slope(c, next) > steepest) return NONE;
            return next;
        }

        long water() {
            long cells = 0;
            for (int c = 0; c < CELLS; c++) {
                if (isWater(c)) cells |= bit(c);
            }
            return cells;
        }

        int parksIn(long cells) {
            int number = 0;
            for (int c = 0; c < CELLS; c++) {
                if (sorts[c] == PARK && has(cells, c)) number++;
            }
            return number;
        }

        long hash(long h) {
            for (int c = 0; c < CELLS; c++) {
                h = 31 * h + sorts[c];
                h = 31 * h + heights[c];
            }
            return h;
        }
    }

    /** BUILDINGS and the tellings of their WORTH. */
    static final class Buildings {
        static final int MOST = 32, MOST_TELLINGS = 100;
        private final int[] cells = new int[MOST];
        private final int[] uses = new int[MOST];
        private final int[] rooms = new int[MOST];
        private final int[] dwellers = new int[MOST];
        private final int[] buyers = new int[MOST];
        private final int[] worths = new int[MOST];
        private final boolean[] taken = new boolean[MOST];
        private final int[] onCells = new int[Ground.CELLS];
        private final int[] toldOf = new int[MOST_TELLINGS];
        private final int[] toldDays = new int[MOST_TELLINGS];
        private final int[] toldWorths = new int[MOST_TELLINGS];
        private final int[] walkers = new int[MOST];
        private int number;
        private int tellings;

        Buildings() {
            Arrays.fill(onCells, NONE);
        }

        static boolean isUse(int use) {
            return use >= 0 && use <= 2;
        }

        static boolean isWorth(int v) {
            return v >= 1 && v <= 100000;
        }

        int number() {
            return number;
        }

        int tellings() {
            return tellings;
        }

        int tellingsLeft() {
            return MOST_TELLINGS - tellings;
        }

        boolean exists(int b) {
            return b >= 0 && b < number;
        }

        boolean isTaken(int b) {
            return taken[b];
        }

        boolean stands(int b, int use) {
            return !taken[b] && uses[b] == use;
        }

        /** The BUILDING that STANDS on a CELL; NONE. */
        int standingOn(int c) {
            return onCells[c];
        }

        int cellOfOne(int b) {
            return cells[b];
        }

        int latestWorth(int b) {
            return worths[b];
        }

        int add(int c, int use, int roomCount, int worth, int day) {
            int b = number;
            number++;
            cells[b] = c;
            uses[b] = use;
            rooms[b] = roomCount;
            buyers[b] = NONE;
            onCells[c] = b;
            assess(b, worth, day);
            return b;
        }

        void assess(int b, int worth, int day) {
            worths[b] = worth;
            toldOf[tellings] = b;
            toldDays[tellings] = day;
            toldWorths[tellings] = worth;
            tellings++;
        }

        int worthBy(int b, int day) {
            int worth = NONE;
            for (int i = 0; i < tellings && toldDays[i] <= day; i++) {
                if (toldOf[i] == b) worth = toldWorths[i];
            }
            return worth;
        }

        int firstWorth(int b) {
            for (int i = 0; i < tellings; i++) {
                if (toldOf[i] == b) return toldWorths[i];
            }
            return NONE;
        }

        int trait(int b, int what) {
            switch (what) {
                case 0: return cells[b];
                case 1: return uses[b];
                case 2: return rooms[b];
                case 3: return dwellers[b];
                case 4: return taken[b] ? 1 : 0;
                default: return buyers[b];
            }
        }

        /** Of what is no HOUSE that STANDS: 0. */
        int roomsLeft(int b) {
            return stands(b, HOUSE) ? rooms[b] - dwellers[b] : 0;
        }

        void enter(int b) {
            dwellers[b]++;
        }

        void setBuyer(int b, int p) {
            buyers[b] = p;
        }

        void remove(int b) {
            taken[b] = true;
            dwellers[b] = 0;
            onCells[cells[b]] = NONE;
        }

        long standingCells() {
            long all = 0;
            for (int b = 0; b < number; b++) {
                if (!taken[b]) all |= Ground.bit(cells[b]);
            }
            return all;
        }

        int standingIn(long within) {
            return Long.bitCount(standingCells() & within);
        }

        int housesIn(long within) {
            int sum = 0;
            for (int b = 0; b < number; b++) {
                if (stands(b, HOUSE) && Ground.has(within, cells[b])) sum++;
            }
            return sum;
        }

        int dwellersIn(long within) {
            int sum = 0;
            for (int b = 0; b < number; b++) {
                if (Ground.has(within, cells[b])) sum += dwellers[b];
            }
            return sum;
        }

        /** The BUILDINGS (as bits) of a USE that STAND, none of them on the barred CELLS. */
        long off(long barred, int use) {
            long all = 0;
            for (int b = 0; b < number; b++) {
                if (stands(b, use) && !Ground.has(barred, cells[b])) all |= 1L << b;
            }
            return all;
        }

        /** Which of the open SHOPS (as bits) a week leaves open. */
        long shopsLeft(long open, long barred, long free, int fewest) {
            Arrays.fill(walkers, 0);
            for (int b = 0; b < number; b++) {
                if (dwellers[b] == 0 || Ground.has(barred, cells[b])) continue;
                int shop = nearest(cells[b], open, free);
                if (shop != NONE) walkers[shop] += dwellers[b];
            }
            long left = open;
            for (int b = 0; b < number; b++) {
                if (walkers[b] < fewest) left &= ~(1L << b);
            }
            return left;
        }

        private int nearest(int c, long open, long free) {
            long reached = Ground.bit(c);
            for (int steps = 0; steps < Ground.CELLS; steps++) {
                int shop = firstIn(reached, open);
                if (shop != NONE) return shop;
                long wider = Ground.spread(reached) & free;
                if (wider == reached) return NONE;
                reached = wider;
            }
            return NONE;
        }

        private int firstIn(long within, long some) {
            for (int b = 0; b < number; b++) {
                if ((some >>> b & 1) == 1 && Ground.has(within, cells[b])) return b;
            }
            return NONE;
        }

        long hash(long h) {
            for (int b = 0; b < number; b++) {
                for (int what = 0; what <= 5; what++) h = 31 * h + trait(b, what);
                h = 31 * h + worths[b];
            }
            return h;
        }
    }

    /** PERSONS. */
    static final class Persons {
        static final int MOST = 40;
        private final int[] homes = new int[MOST];
        private final int[] works = new int[MOST];
        private final boolean[] cars = new boolean[MOST];
        private final int[] kins = new int[MOST];
        private int number;

        int number() {
            return number;
        }

        boolean exists(int p) {
            return p >= 0 && p < number;
        }

        int add(int work, boolean car, int kin) {
            int p = number;
            number++;
            homes[p] = NONE;
            works[p] = work;
            cars[p] = car;
            kins[p] = kin;
            return p;
        }

        int homeOf(int p) {
            return homes[p];
        }

        int workOf(int p) {
            return works[p];
        }

        void setHome(int p, int b) {
            homes[p] = b;
        }

        boolean areKin(int p, int other) {
            return kins[p] == kins[other];
        }

        boolean canCome(int p, int steps, int hour) {
            return (cars[p] || steps <= 6) && (works[p] == NONE || hour < 9 || hour > 16);
        }

        /** Who lived in a BUILDING (as bits) lives nowhere. */
        long turnOut(int b) {
            long out = 0;
            for (int p = 0; p < number; p++) {
                if (homes[p] != b) continue;
                homes[p] = NONE;
                out |= 1L << p;
            }
            return out;
        }

        int homeless() {
            int sum = 0;
            for (int p = 0; p < number; p++) {
                if (homes[p] == NONE) sum++;
            }
            return sum;
        }

        int trait(int p, int what) {
            switch (what) {
                case 0: return homes[p];
                case 1: return works[p];
                case 2: return cars[p] ? 1 : 0;
                default: return kins[p];
            }
        }

        long hash(long h) {
            for (int p = 0; p < number; p++) {
                for (int what = 0; what <= 3; what++) h = 31 * h + trait(p, what);
            }
            return h;
        }
    }

    /** RULES. Of a letter's items in one TEXT only the last can ever be in force: no more is kept. */
    static final class Rules {
        static final int MOST = 16, BLANK = 32, ABSENT = -1;
        private static final int LETTER_COUNT = 8, MOST_DIGITS = 4;
        private static final int[] LETTERS = {83, 70, 84, 77, 75, 78, 80, 72};
        private static final int[] DEFAULTS = {10, 20, 100, 50, 2, 60, 3, 7};
        private final int[] toldDays = new int[MOST];
        private final int[] fromDays = new int[MOST];
        private final int[] values = new int[MOST * LETTER_COUNT];
        private int number;

        int number() {
            return number;
        }

        static boolean isLetter(int what) {
            return what >= 0 && what < LETTER_COUNT;
        }

        private static int letterOf(int sign) {
            for (int what = 0; what < LETTER_COUNT; what++) {
                if (LETTERS[what] == sign) return what;
            }
            return NONE;
        }

        private static boolean isDigit(int sign) {
            return sign >= 48 && sign <= 57;
        }

        private static int digitsAt(Shelf texts, int t, int i) {
            int digits = 0;
            while (digits < MOST_DIGITS && texts.holds(t, i + digits) && isDigit(texts.at(t, i + digits))) digits++;
            return digits;
        }

        private static int numberAt(Shelf texts, int t, int i, int digits) {
            int value = 0;
            for (int k = i; k < i + digits; k++) value = 10 * value + texts.at(t, k) - 48;
            return value;
        }

        static int firstFault(Shelf texts, int t) {
            int i = 0;
            while (i < texts.sizeOf(t)) {
                int sign = texts.at(t, i);
                i++;
                if (sign == BLANK) continue;
                if (letterOf(sign) == NONE) return i - 1;
                int digits = digitsAt(texts, t, i);
                if (digits == 0) return i;
                i += digits;
            }
            return NONE;
        }

        /** Of a TEXT without a FAULT. */
        int add(Shelf texts, int t, int day, int from) {
            int r = number;
            number++;
            toldDays[r] = day;
            fromDays[r] = from;
            Arrays.fill(values, r * LETTER_COUNT, (r + 1) * LETTER_COUNT, ABSENT);
            for (int i = 0; i < texts.sizeOf(t); i++) {
                int letter = letterOf(texts.at(t, i));
                if (letter == NONE) continue;
                values[r * LETTER_COUNT + letter] = numberAt(texts, t, i + 1, digitsAt(texts, t, i + 1));
            }
            return r;
        }

        int deciding(int letter, int day, int known) {
            int decides = NONE;
            for (int r = 0; r < number; r++) {
                if (values[r * LETTER_COUNT + letter] == ABSENT) continue;
                if (toldDays[r] > known || fromDays[r] > day) continue;
                if (decides == NONE || fromDays[r] >= fromDays[decides]) decides = r;
            }
            return decides;
        }

        int valueFor(int letter, int day, int known) {
            int r = deciding(letter, day, known);
            return r == NONE ? DEFAULTS[letter] : values[r * LETTER_COUNT + letter];
        }

        long hash(long h) {
            for (int r = 0; r < number; r++) {
                h = 31 * h + toldDays[r];
                h = 31 * h + fromDays[r];
            }
            return h;
        }
    }

    /** MARKS of all KINDS in one list, since their numbers run through all of them. */
    static final class Marks {
        static final int MOST = 24;
        private final int[] kinds = new int[MOST];
        private final int[] days = new int[MOST];
        private final int[] hangs = new int[MOST];
        private final int[] lengths = new int[MOST];
        private final int[] routes = new int[MOST * Ground.CELLS];
        private final long[] sets = new long[MOST];
        private final int[] costs = new int[MOST];
        private final int[] shownDays = new int[MOST];
        /** TAKING: what is paid; MOVED: what is owed; GRANT: tenths. */
        private final int[] amounts = new int[MOST];
        /** MOVED: the PERSON; HEARING: the CELL. */
        private final int[] parties = new int[MOST];
        /** GRANT: the last day; HEARING: the day on which it is held. */
        private final int[] dates = new int[MOST];
        private final int[] hours = new int[MOST];
        private final long[] turnedOut = new long[MOST];
        private int number;

        int number() {
            return number;
        }

        boolean exists(int m) {
            return m >= 0 && m < number;
        }

        int kindOf(int m) {
            return kinds[m];
        }

        boolean isOf(int m, int kind) {
            int own = kinds[m];
            return own == kind || own == RAMP && kind == LINE || own == MOVED && kind == TAKING;
        }

        int add(int kind, int day, int on) {
            int m = number;
            number++;
            kinds[m] = kind;
            days[m] = day;
            hangs[m] = on;
            shownDays[m] = NONE;
            return m;
        }

        void route(int m, int[] path, int length, int cost) {
            lengths[m] = length;
            costs[m] = cost;
            for (int i = 0; i < length; i++) {
                routes[m * Ground.CELLS + i] = path[i];
                sets[m] |= Ground.bit(path[i]);
            }
        }

        void routeOf(int m, int c) {
            lengths[m] = 1;
            routes[m * Ground.CELLS] = c;
            sets[m] = Ground.bit(c);
        }

        void setTaking(int m, int paid, long out) {
            amounts[m] = paid;
            turnedOut[m] = out;
        }

        void setMoved(int m, int owing, int p) {
            amounts[m] = owing;
            parties[m] = p;
        }

        void setGrant(int m, int tenths, int until) {
            amounts[m] = tenths;
            dates[m] = until;
        }

        void setHearing(int m, int c, int hour, int day) {
            parties[m] = c;
            hours[m] = hour;
            dates[m] = day;
        }

        int cellAt(int m, int i) {
            if (i < 0 || i >= lengths[m]) return NONE;
            return routes[m * Ground.CELLS + i];
        }

        int lengthOf(int m) {
            return lengths[m];
        }

        long cells(int m) {
            return sets[m];
        }

        int costOf(int m) {
            return costs[m];
        }

        int shownOn(int m) {
            return shownDays[m];
        }

        void showOn(int m, int day) {
            shownDays[m] = day;
        }

        boolean livedThere(int m, int p) {
            return (turnedOut[m] >>> p & 1) == 1;
        }

        int amountOf(int m) {
            return amounts[m];
        }

        int partyOf(int m) {
            return parties[m];
        }

        int dateOf(int m) {
            return dates[m];
        }

        int hourOf(int m) {
            return hours[m];
        }

        int dayOf(int m) {
            return days[m];
        }

        int hangsOn(int m) {
            return hangs[m];
        }

        int trait(int m, int what) {
            switch (what) {
                case 0: return kinds[m];
                case 1: return days[m];
                default: return hangs[m];
            }
        }

        long hash(long h) {
            for (int m = 0; m < number; m++) {
                for (int what = 0; what <= 2; what++) h = 31 * h + trait(m, what);
                if (!isOf(m, LINE)) continue;
                h = 31 * h + costs[m];
                h = 31 * h + shownDays[m];
                for (int i = 0; i < lengths[m]; i++) h = 31 * h + cellAt(m, i);
            }
            return h;
        }
    }

    /** BUYS, and who HEARD of which LINE. */
    static final class Dealings {
        static final int MOST_BUYS = 40, MOST_HEARDS = 60;
        private final int[] boughts = new int[MOST_BUYS];
        private final int[] buyers = new int[MOST_BUYS];
        private final int[] buyDays = new int[MOST_BUYS];
        private final int[] hearers = new int[MOST_HEARDS];
        private final int[] lines = new int[MOST_HEARDS];
        private final int[] heardDays = new int[MOST_HEARDS];
        private int buys;
        private int heards;

        int buys() {
            return buys;
        }

        int heards() {
            return heards;
        }

        int addBuy(int b, int p, int day) {
            boughts[buys] = b;
            buyers[buys] = p;
            buyDays[buys] = day;
            buys++;
            return buys;
        }

        void addHeard(int p, int l, int day) {
            hearers[heards] = p;
            lines[heards] = l;
            heardDays[heards] = day;
            heards++;
        }

        int bought(int i) {
            return boughts[i];
        }

        int dayOfBuy(int i) {
            return buyDays[i];
        }

        int heardOn(int p, int l) {
            for (int k = 0; k < heards; k++) {
                if (hearers[k] == p && lines[k] == l) return heardDays[k];
            }
            return NONE;
        }

        boolean buyerHeard(int i, int l) {
            int day = heardOn(buyers[i], l);
            return day != NONE && day <= buyDays[i];
        }

        /** Only asked where the buyer did not hear in time: whoever of the KIN did is another one. */
        boolean kinHeard(Persons persons, int i, int l) {
            for (int k = 0; k < heards; k++) {
                if (lines[k] != l || heardDays[k] > buyDays[i]) continue;
                if (persons.areKin(hearers[k], buyers[i])) return true;
            }
            return false;
        }
    }

    /**
     * The way of least COST. What a step costs hangs on the one ahead of it (turns), so for each CELL
     * and way out of it the least COST from there to the end is held; the first way by its CELLS is then
     * read off from the start. A least way never comes to a CELL twice: going round takes more turns
     * than it can save.
     */
    static final class WaySearch {
        private static final int FAR = 1000000000, TURN = 5, MANY = 1000000;
        final int[] prices = new int[Ground.CELLS];
        final int[] path = new int[Ground.CELLS];
        int length;
        int total;
        private final int[] byWay = new int[Ground.CELLS * Ground.WAYS];
        private final int[] least = new int[Ground.CELLS];
        private final int[] queue = new int[Ground.CELLS];
        private long waits;
        private int first;
        private int waiting;
        private int goal;

        boolean find(Ground ground, int steepest, int a, int b) {
            Arrays.fill(byWay, FAR);
            Arrays.fill(least, FAR);
            first = 0;
            waiting = 0;
            waits = 0;
            goal = b;
            rouseBeside(ground, steepest, b);
            for (int turn = 0; turn < MANY && waiting > 0; turn++) {
                int c = next();
                if (improve(ground, steepest, c)) rouseBeside(ground, steepest, c);
            }
            if (least[a] >= FAR) return false;
            total = prices[a] + least[a];
            trace(a);
            return true;
        }

        private int next() {
            int c = queue[first];
            first = (first + 1) % Ground.CELLS;
            waiting--;
            waits &= ~Ground.bit(c);
            return c;
        }

        private void rouseBeside(Ground ground, int steepest, int c) {
            for (int way = 0; way < Ground.WAYS; way++) {
                int beside = ground.onward(c, way, steepest);
                if (beside == NONE || beside == goal || Ground.has(waits, beside)) continue;
                queue[(first + waiting) % Ground.CELLS] = beside;
                waiting++;
                waits |= Ground.bit(beside);
            }
        }

        /** What is left to pay on a CELL that was come to by a way. */
        private int rest(int c, int way) {
            return c == goal ? 0 : Math.min(byWay[c * Ground.WAYS + way], least[c] + TURN);
        }

        private boolean improve(Ground ground, int steepest, int c) {
            boolean better = false;
            for (int way = 0; way < Ground.WAYS; way++) {
                int to = ground.onward(c, way, steepest);
                if (to == NONE || rest(to, way) >= FAR) continue;
                int sum = prices[to] + 10 * ground.slope(c, to) + rest(to, way);
                if (sum >= byWay[c * Ground.WAYS + way]) continue;
                byWay[c * Ground.WAYS + way] = sum;
                least[c] = Math.min(least[c], sum);
                better = true;
            }
            return better;
        }

        private void trace(int a) {
            int c = a;
            int came = NONE;
            path[0] = a;
            length = 1;
            while (c != goal && length < Ground.CELLS) {
                came = firstOfLeast(c, came);
                if (came == NONE || Ground.beside(c, came) == NONE) return;
                c = Ground.beside(c, came);
                path[length] = c;
                length++;
            }
        }

        private int firstOfLeast(int c, int came) {
            int due = came == NONE ? least[c] : rest(c, came);
            for (int way = 0; way < Ground.WAYS; way++) {
                int turn = came == NONE || came == way ? 0 : TURN;
                if (byWay[c * Ground.WAYS + way] + turn == due) return way;
            }
            return NONE;
        }
    }

    /**
     * WHITHER. Each one is led in turn; who is there already gives way along the cheapest chain. Where
     * ROOMS are too few, a place that costs nothing stands for nowhere, with just as many ROOMS as lack:
     * so all are led, and as many as can be to a HOUSE.
     */
    static final class Rehousing {
        private static final int COLUMNS = Buildings.MOST + 1;
        int led;
        int sum;
        private final int[] prices = new int[Persons.MOST * COLUMNS];
        private final int[] left = new int[COLUMNS];
        private final int[] cells = new int[COLUMNS];
        private final int[] at = new int[Persons.MOST];
        private final int[] least = new int[COLUMNS];
        private final int[] comer = new int[COLUMNS];
        private int nowhere;

        void lead(Buildings buildings, Persons persons, long lineCells) {
            int roomSum = listHouses(buildings, lineCells);
            int people = listPeople(buildings, persons, lineCells);
            left[nowhere] = Math.max(0, people - roomSum);
            led = people - left[nowhere];
            for (int p = 0; p < people; p++) insert(p);
            sum = 0;
            for (int p = 0; p < people; p++) sum += price(p, at[p]);
        }

        private int price(int p, int h) {
            return prices[p * COLUMNS + h];
        }

        private int listHouses(Buildings buildings, long lineCells) {
            int roomSum = 0;
            nowhere = 0;
            for (int b = 0; b < buildings.number(); b++) {
                int rooms = buildings.roomsLeft(b);
                if (rooms < 1 || Ground.has(lineCells, buildings.cellOfOne(b))) continue;
                left[nowhere] = rooms;
                cells[nowhere] = buildings.cellOfOne(b);
                nowhere++;
                roomSum += rooms;
            }
            return roomSum;
        }

        private int listPeople(Buildings buildings, Persons persons, long lineCells) {
            int people = 0;
            for (int p = 0; p < persons.number(); p++) {
                int home = persons.homeOf(p);
                if (home == NONE || !Ground.has(lineCells, buildings.cellOfOne(home))) continue;
                int work = persons.workOf(p);
                for (int h = 0; h < nowhere; h++) {
                    prices[people * COLUMNS + h] = work == NONE ? 0 : Ground.steps(cells[h], work);
                }
                prices[people * COLUMNS + nowhere] = 0;
                people++;
            }
            return people;
        }

        private void insert(int p) {
            for (int h = 0; h <= nowhere; h++) {
                least[h] = price(p, h);
                comer[h] = p;
            }
            for (int round = 0; round <= nowhere; round++) {
                if (!relax(p)) break;
            }
            int h = cheapestWithRoom();
            left[h]--;
            for (int links = 0; links <= nowhere; links++) {
                int q = comer[h];
                int before = at[q];
                at[q] = h;
                if (q == p) break;
                h = before;
            }
        }

        private boolean relax(int people) {
            boolean better = false;
            for (int q = 0; q < people; q++) {
                int base = least[at[q]] - price(q, at[q]);
                for (int h = 0; h <= nowhere; h++) {
                    if (base + price(q, h) >= least[h]) continue;
                    least[h] = base + price(q, h);
                    comer[h] = q;
                    better = true;
                }
            }
            return better;
        }

        private int cheapestWithRoom() {
            int best = nowhere;
            for (int h = 0; h < nowhere; h++) {
                if (left[h] > 0 && (left[best] < 1 || least[h] < least[best])) best = h;
            }
            return best;
        }
    }

    /** ACTS: drawn apart first, since what is refused must leave the latest ones as they are. */
    static final class Acts {
        static final int MOST = 13;
        int number;
        int end;
        private final int[] ends = new int[MOST];
        private final int[] latest = new int[MOST];
        private final int[] drawn = new int[MOST];
        private final int[] order = new int[MOST];

        boolean exists(int i) {
            return i >= 0 && i < number;
        }

        int endOf(int i) {
            return ends[i];
        }

        int laterBy(int i) {
            return latest[i] - ends[i];
        }

        /** false: a number that is none, or ACTS that wait for themselves. */
        boolean draw(Shelf rows, int r, int today) {
            int size = rows.sizeOf(r) / 3;
            for (int i = 0; i < size; i++) {
                int days = rows.at(r, 3 * i);
                if (days < 0 || days > 200) return false;
                if (!isAhead(rows.at(r, 3 * i + 1), size) || !isAhead(rows.at(r, 3 * i + 2), size)) return false;
            }
            if (!drawEnds(rows, r, size, today)) return false;
            keep(size);
            drawLatest(rows, r);
            return true;
        }

        private static boolean isAhead(int i, int size) {
            return i == NONE || i >= 0 && i < size;
        }

        /** By rounds: of ACTS that wait for themselves none is ever done. */
        private boolean drawEnds(Shelf rows, int r, int size, int today) {
            Arrays.fill(drawn, NONE);
            int done = 0;
            for (int round = 0; round < size && done < size; round++) {
                for (int i = 0; i < size; i++) {
                    int one = rows.at(r, 3 * i + 1);
                    int other = rows.at(r, 3 * i + 2);
                    if (drawn[i] != NONE || isOpen(one) || isOpen(other)) continue;
                    int begin = Math.max(today, Math.max(endAhead(one), endAhead(other)));
                    drawn[i] = begin + rows.at(r, 3 * i);
                    order[done] = i;
                    done++;
                }
            }
            return done == size;
        }

        private boolean isOpen(int i) {
            return i != NONE && drawn[i] == NONE;
        }

        private int endAhead(int i) {
            return i == NONE ? 0 : drawn[i];
        }

        private void keep(int size) {
            number = size;
            end = 0;
            for (int i = 0; i < size; i++) {
                ends[i] = drawn[i];
                end = Math.max(end, drawn[i]);
            }
            for (int i = 0; i < size; i++) latest[i] = end;
        }

        private void drawLatest(Shelf rows, int r) {
            for (int k = number - 1; k >= 0; k--) {
                int i = order[k];
                int begin = latest[i] - rows.at(r, 3 * i);
                holdBack(rows.at(r, 3 * i + 1), begin);
                holdBack(rows.at(r, 3 * i + 2), begin);
            }
        }

        private void holdBack(int i, int day) {
            if (i != NONE) latest[i] = Math.min(latest[i], day);
        }
    }

    /**
     * TO STOP a way: as many ways as can go side by side, each CELL that can be broken being used once,
     * are as many as the fewest that stop all; and where the search for one more way ends is the set
     * nearest to the first CELL. Each CELL is two nodes, come to (its number) and left (64 more).
     */
    static final class Stopper {
        private static final int NODES = 2 * Ground.CELLS, NO_END = 1000;
        private final long[] open = new long[Ground.WAYS];
        private final int[] before = new int[NODES];
        private final int[] queue = new int[NODES];
        private final int[] through = new int[Ground.CELLS];
        private final int[] along = new int[Ground.CELLS * Ground.WAYS];
        private int queued;

        /** Which steps may be gone at all. */
        void survey(Ground ground, int steepest) {
            for (int way = 0; way < Ground.WAYS; way++) {
                open[way] = 0;
                for (int c = 0; c < Ground.CELLS; c++) {
                    if (ground.onward(c, way, steepest) != NONE) open[way] |= Ground.bit(c);
                }
            }
        }

        boolean connects(int a, int b, long barred) {
            long reached = Ground.bit(a);
            for (int steps = 0; steps < Ground.CELLS; steps++) {
                long wider = reached | (reached & open[0]) >>> 8 | (reached & open[1]) >>> 1
                    | (reached & open[2]) << 1 | (reached & open[3]) << 8;
                wider &= ~barred;
                if (wider == reached || Ground.has(wider, b)) return Ground.has(wider, b);
                reached = wider;
            }
            return false;
        }

        long nearestCut(int a, int b, long breakable) {
            Arrays.fill(through, 0);
            Arrays.fill(along, 0);
            for (int flow = 0; flow < Ground.CELLS; flow++) {
                if (!search(a, b, breakable)) break;
                push(a, b);
            }
            long cut = 0;
            for (int c = 0; c < Ground.CELLS; c++) {
                if (before[c] != NONE && before[Ground.CELLS + c] == NONE && Ground.has(breakable, c)) cut |= Ground.bit(c);
            }
            return cut;
        }

        private boolean search(int a, int b, long breakable) {
            Arrays.fill(before, NONE);
            queued = 0;
            visit(Ground.CELLS + a, Ground.CELLS + a);
            for (int head = 0; head < NODES && head < queued && before[b] == NONE; head++) {
                int node = queue[head];
                if (node >= Ground.CELLS) leave(node - Ground.CELLS);
                else enter(node, Ground.has(breakable, node) ? 1 : NO_END);
            }
            return before[b] != NONE;
        }

        private void visit(int node, int from) {
            if (before[node] != NONE) return;
            before[node] = from;
            queue[queued] = node;
            queued++;
        }

        private void leave(int c) {
            for (int way = 0; way < Ground.WAYS; way++) {
                if (Ground.has(open[way], c)) visit(Ground.beside(c, way), Ground.CELLS + c);
            }
            if (through[c] > 0) visit(c, Ground.CELLS + c);
        }

        private void enter(int c, int most) {
            if (through[c] < most) visit(Ground.CELLS + c, c);
            for (int way = 0; way < Ground.WAYS; way++) {
                int from = Ground.beside(c, way);
                if (from != NONE && along[from * Ground.WAYS + Ground.back(way)] > 0) visit(Ground.CELLS + from, c);
            }
        }

        private void push(int a, int b) {
            int node = b;
            for (int links = 0; links < NODES && node != Ground.CELLS + a; links++) {
                int from = before[node];
                if (from == NONE) return;
                int here = node % Ground.CELLS;
                int there = from % Ground.CELLS;
                boolean arrives = node < Ground.CELLS;
                if (here == there) through[here] += arrives ? -1 : 1;
                else if (arrives) along[there * Ground.WAYS + Ground.wayTo(there, here)]++;
                else along[here * Ground.WAYS + Ground.wayTo(here, there)]--;
                node = from;
            }
        }
    }
}
