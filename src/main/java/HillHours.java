import java.util.Arrays;

/** A hill shared by hours of sun. The document's promises are told by number at each call. */
public final class HillHours {
    public static final int NONE = -1, BAD = -2, NOT = -3, FULL = -4;

    private static final int MOST_CELLS = 12, OWNERS = 4, SEASONS = 4, HOURS = 12, HALF_DAY = 6;
    private static final int MOST_HEIGHT = 20, MOST_DAYS = 99, MOST_WORTH = 9, MOST_LOSS = 99999;
    private static final int SORTS = 3, MOST_NEED = 9999, MOST_PAY = 99;
    private static final int MOST_SEEN = 8, SIXTEENTHS = 16;
    private static final int SHEETS = 4, FORMS = 3, MOST_ITEMS = 48;
    private static final int FINDING_BASE = -10;
    private static final int FOUND_NULL = 1, FOUND_INDEX = 2, FOUND_CAST = 3, FOUND_STORE = 4, FOUND_SIZE = 5;
    private static final int ANY_NUMBER_BASE = -1000000;
    private static final int LEAST_INT = 1 << 31;
    private static final long LEAST_LONG = 1L << 63;

    private final Sun sun = new Sun();
    private final Ground ground = sun.ground;
    private final Parting parting = new Parting();
    private final Planting planting = new Planting();
    private final Chance chance = new Chance();
    private final Sheets sheets = new Sheets();
    private final int[] owners = new int[MOST_CELLS];
    private final int[] worths = new int[OWNERS * SEASONS];
    private final int[] losses = new int[OWNERS];
    private final int[] yearsAfterFall = new int[MOST_CELLS];
    private final int[] seenSeasons = new int[MOST_SEEN];
    private final int[] seenHours = new int[MOST_SEEN];
    private final int[] cloudSixteenths = {4, 4, 4, 4};
    private int seenCount;
    private int latestFinding;
    // Parting and planting are dear, so they are done only when asked for after a change.
    private boolean partsKnown;
    private boolean plantsKnown;

    /** Promise 1. */
    public HillHours() {
        Arrays.fill(worths, 1);
    }

    // ---- the hill

    /** Promise 2. */
    public int type(int b) {
        if (!isBelow(b, 256)) {
            return BAD;
        }
        if (ground.isFull()) {
            return FULL;
        }
        ground.append(b);
        measureAnew();
        return ground.bytes();
    }

    /** Promise 3. */
    public int wipe() {
        int had = ground.bytes();
        ground.empty();
        measureAnew();
        return had;
    }

    /** Promise 4. */
    public int fault() {
        return ground.faultPlace();
    }

    /** Promise 5. */
    public int cell(int cell, int what) {
        if (!isCell(cell) || !isBelow(what, 3)) {
            return BAD;
        }
        if (what == 0) {
            return ground.heightOf(cell);
        }
        return what == 1 ? sun.standingOn(cell) : owners[cell];
    }

    /** Promise 6. */
    public int stand(int cell, int v) {
        if (!isBelow(cell, MOST_CELLS) || !isBelow(v, MOST_HEIGHT + 1)) {
            return BAD;
        }
        int was = sun.build(cell, v);
        measureAnew();
        return was;
    }

    /** Promise 7. */
    public int owner(int cell, int v) {
        if (!isBelow(cell, MOST_CELLS) || !isBelow(v, OWNERS)) {
            return BAD;
        }
        int was = owners[cell];
        owners[cell] = v;
        return was;
    }

    /** Promise 8. */
    public int read(int s) {
        if (!isBelow(s, SHEETS)) {
            return BAD;
        }
        if (sheets.isLost(s)) {
            return found(FOUND_NULL);
        }
        int most = Math.min(MOST_CELLS, sheets.sizeOf(s));
        int taken = 0;
        while (taken < most && isBelow(sheets.itemAt(s, taken), OWNERS)) {
            owners[taken] = sheets.itemAt(s, taken);
            taken++;
        }
        return taken;
    }

    /** Promise 9. */
    public int days(int season, int v) {
        if (!isBelow(season, SEASONS) || !isBelow(v, MOST_DAYS + 1)) {
            return BAD;
        }
        int was = sun.lengthen(season, v);
        measureAnew();
        return was;
    }

    // ---- sun

    /** Promise 10. */
    public int steep(int season, int hour) {
        if (!isBelow(season, SEASONS) || !isBelow(hour, HOURS)) {
            return BAD;
        }
        return Sun.steepness(season, hour);
    }

    /** Promise 11. */
    public int shade(int cell, int season, int hour) {
        if (!isCell(cell) || !isBelow(season, SEASONS) || !isBelow(hour, HOURS)) {
            return BAD;
        }
        return sun.nearestShader(cell, season, hour);
    }

    /** Promise 12. */
    public int light(int cell, int season) {
        if (!isCell(cell) || !isBelow(season, SEASONS)) {
            return BAD;
        }
        return sun.bitsOf(cell, season);
    }

    /** Promise 13. */
    public int hours(int cell, int season) {
        if (!isCell(cell) || season != NONE && !isBelow(season, SEASONS)) {
            return BAD;
        }
        return season == NONE ? sun.yearOf(cell) : sun.hoursOf(cell, season);
    }

    /** Promise 14. */
    public int has(int owner, int what) {
        if (!isBelow(owner, OWNERS) || !isBelow(what, 2)) {
            return BAD;
        }
        int bits = 0;
        int year = 0;
        for (int cell = 0; cell < ground.cells(); cell++) {
            if (owners[cell] == owner) {
                bits |= 1 << cell;
                year += sun.yearOf(cell);
            }
        }
        return what == 0 ? bits : year;
    }

    // ---- parts, roofs

    /** Promise 15. */
    public int parts(int what) {
        if (!isBelow(what, 2)) {
            return BAD;
        }
        knowParts();
        return what == 0 ? parting.leastDifference() : parting.firstPart();
    }

    /** Promise 16. */
    public int taken(int cell, int v, int owner) {
        if (!isCell(cell) || !isBelow(v, MOST_HEIGHT + 1) || !isBelow(owner, OWNERS)) {
            return ANY_NUMBER_BASE + BAD;
        }
        weighLosses(cell, v);
        return losses[owner];
    }

    /** Promise 17. */
    public int highest(int cell, int d) {
        if (!isCell(cell) || !isBelow(d, MOST_LOSS + 1)) {
            return BAD;
        }
        // What is higher never takes less, and nothing at all takes nothing: so halving finds the height.
        int height = 0;
        for (int step = 16; step > 0; step >>= 1) {
            if (height + step <= MOST_HEIGHT) {
                weighLosses(cell, height + step);
                height += mostLost() <= d ? step : 0;
            }
        }
        return height;
    }

    /** Promise 18. */
    public int again(int cell, int d, int what) {
        if (!isCell(cell) || !isBelow(d, MOST_LOSS + 1) || !isBelow(what, 2)) {
            return BAD;
        }
        knowParts();
        if (sun.standingOn(cell) == 0 || parting.firstPart() == NONE) {
            return NOT;
        }
        weighFall(cell);
        parting.partAgain(ground, yearsAfterFall, d);
        return what == 0 ? parting.fewestMoved() : parting.partAfter();
    }

    // ---- changes, sorts

    /** Promise 19. */
    public int worth(int owner, int season, int v) {
        if (!isBelow(owner, OWNERS) || !isBelow(season, SEASONS) || !isBelow(v, MOST_WORTH + 1)) {
            return BAD;
        }
        int place = owner * SEASONS + season;
        int was = worths[place];
        worths[place] = v;
        return was;
    }

    /** Promise 20. */
    public int value(int cell, int owner) {
        if (!isCell(cell) || !isBelow(owner, OWNERS)) {
            return BAD;
        }
        return worthTo(owner, cell);
    }

    /** Promise 21. */
    public int change(int a, int b) {
        if (!isCell(a) || !isCell(b) || a == b) {
            return BAD;
        }
        return wouldSwap(a, b) ? 1 : 0;
    }

    /** Promise 22. */
    public int changes(int ring) {
        if (!isBelow(ring, 2)) {
            return BAD;
        }
        return ring == 0 ? countPairs() : countRings();
    }

    /** Promise 23. */
    public int sort(int sort, int what, int v) {
        if (!isBelow(sort, SORTS) || !isBelow(what, 2)) {
            return BAD;
        }
        if (!isBelow(v, (what == 0 ? MOST_NEED : MOST_PAY) + 1)) {
            return BAD;
        }
        plantsKnown = false;
        return what == 0 ? planting.changeNeed(sort, v) : planting.changePay(sort, v);
    }

    /** Promise 24. */
    public int set(int cell) {
        if (cell != NONE && !isCell(cell)) {
            return BAD;
        }
        if (!plantsKnown) {
            planting.plant(sun.years(), ground.cells());
            plantsKnown = true;
        }
        return cell == NONE ? planting.mostPaid() : planting.sortOn(cell);
    }

    // ---- seen, clouds

    /** Promise 25. */
    public int seen(int season, int hour) {
        if (!isBelow(season, SEASONS) || !isBelow(hour, HOURS)) {
            return BAD;
        }
        if (seenCount >= MOST_SEEN) {
            return FULL;
        }
        seenSeasons[seenCount] = season;
        seenHours[seenCount] = hour;
        seenCount++;
        return seenCount;
    }

    /** Promise 26. */
    public int forget() {
        int had = seenCount;
        seenCount = 0;
        return had;
    }

    /** Promise 27. */
    public int whose(int what) {
        if (!isBelow(what, 2)) {
            return BAD;
        }
        int cellBits = 0;
        int ownerBits = 0;
        for (int cell = 0; cell < ground.cells(); cell++) {
            if (fitsAllSeen(cell)) {
                cellBits |= 1 << cell;
                ownerBits |= 1 << owners[cell];
            }
        }
        return what == 0 ? cellBits : Integer.bitCount(ownerBits);
    }

    /** Promise 28. */
    public int clouds(int season, int v) {
        if (!isBelow(season, SEASONS) || !isBelow(v, SIXTEENTHS + 1)) {
            return BAD;
        }
        int was = cloudSixteenths[season];
        cloudSixteenths[season] = v;
        return was;
    }

    /** Promise 29. */
    public long clear(int cell, int season, int k, int what) {
        if (!isCell(cell) || !isBelow(season, SEASONS)) {
            return LEAST_LONG - BAD;
        }
        if (k != NONE && !isBelow(k, HOURS + 1) || !isBelow(what, 2)) {
            return LEAST_LONG - BAD;
        }
        int sunny = sun.hoursOf(cell, season);
        if (k == NONE) {
            chance.takeMean(sunny, cloudSixteenths[season]);
        } else {
            chance.takeAtLeast(sunny, cloudSixteenths[season], k);
        }
        return what == 0 ? chance.above() : chance.below();
    }

    // ---- sheets

    /** Promise 30. */
    public int sheet(int s, int form, int n) {
        if (!isBelow(s, SHEETS) || !isBelow(form, FORMS) || n > MOST_ITEMS) {
            return BAD;
        }
        if (n < 0) {
            return found(FOUND_SIZE);
        }
        sheets.lay(s, form, n);
        return n;
    }

    /** Promise 31. */
    public int lose(int s) {
        if (!isBelow(s, SHEETS)) {
            return BAD;
        }
        if (sheets.isLost(s)) {
            return found(FOUND_NULL);
        }
        int had = sheets.sizeOf(s);
        sheets.drop(s);
        return had;
    }

    /** Promise 32. */
    public int put(int s, int form, int i, int v) {
        int refusal = refuseItem(s, form, i);
        if (refusal != 0) {
            return refusal;
        }
        sheets.store(s, i, v);
        return 1;
    }

    /** Promise 33. */
    public int get(int s, int form, int i) {
        return refuseItem(s, form, i) != 0 ? LEAST_INT : sheets.itemAt(s, i);
    }

    /** Promise 34. */
    public int copy(int s, int i, int t, int j, int n) {
        if (!isBelow(s, SHEETS) || !isBelow(t, SHEETS)) {
            return BAD;
        }
        if (sheets.isLost(s) || sheets.isLost(t)) {
            return found(FOUND_NULL);
        }
        if (sheets.formOf(s) != sheets.formOf(t)) {
            return found(FOUND_STORE);
        }
        if (!sheets.holds(s, i, n) || !sheets.holds(t, j, n)) {
            return found(FOUND_INDEX);
        }
        sheets.carry(s, i, t, j, n);
        return 1;
    }

    /** Promise 35. */
    public int write(int season, int s) {
        if (!isBelow(season, SEASONS) || !isBelow(s, SHEETS)) {
            return BAD;
        }
        if (sheets.isLost(s)) {
            return found(FOUND_NULL);
        }
        int many = Math.min(sheets.sizeOf(s), ground.cells());
        for (int cell = 0; cell < many; cell++) {
            sheets.store(s, cell, sun.hoursOf(cell, season));
        }
        return many;
    }

    /** Promise 36. */
    public int count(int what) {
        switch (what) {
            case 0:
                return ground.cells();
            case 1:
                return ground.bytes();
            case 2:
                return ground.rows();
            case 3:
                return countStanding();
            case 4:
                return countOwners();
            case 5:
                return seenCount;
            case 6:
                return sun.allYears();
            case 7:
                return sun.allDays();
            case 8:
                return latestFinding;
            default:
                return BAD;
        }
    }

    /** Promise 37. */
    public long digest() {
        long h = 17;
        for (int what = 0; what <= 7; what++) {
            h = mix(h, count(what));
        }
        h = mix(h, fault());
        for (int cell = 0; cell < ground.cells(); cell++) {
            h = mixChances(mixCell(h, cell), cell);
        }
        for (int owner = 0; owner < OWNERS; owner++) {
            h = mix(mix(h, has(owner, 0)), has(owner, 1));
        }
        h = mix(mix(h, parts(0)), parts(1));
        h = mix(h, again(0, 900, 0));
        h = mix(mix(h, changes(0)), changes(1));
        h = mix(h, set(NONE));
        return mix(mix(h, whose(0)), whose(1));
    }

    private static long mix(long h, long next) {
        return 31 * h + next;
    }

    private long mixCell(long start, int cell) {
        long h = start;
        for (int what = 0; what < 3; what++) {
            h = mix(h, cell(cell, what));
        }
        for (int season = 0; season < SEASONS; season++) {
            h = mix(h, light(cell, season));
        }
        h = mix(h, hours(cell, NONE));
        h = mix(h, shade(cell, 0, 3));
        h = mix(h, value(cell, 1));
        h = mix(h, highest(cell, 500));
        return mix(h, set(cell));
    }

    private long mixChances(long start, int cell) {
        long h = mix(start, clear(cell, 2, NONE, 0));
        h = mix(h, clear(cell, 2, NONE, 1));
        h = mix(h, clear(cell, 2, 3, 0));
        return mix(h, clear(cell, 2, 3, 1));
    }

    private static boolean isBelow(int number, int bound) {
        return number >= 0 && number < bound;
    }

    private boolean isCell(int number) {
        return isBelow(number, ground.cells());
    }

    private int found(int finding) {
        latestFinding = finding;
        return FINDING_BASE - finding;
    }

    private int refuseItem(int s, int form, int i) {
        if (!isBelow(s, SHEETS) || !isBelow(form, FORMS)) {
            return BAD;
        }
        if (sheets.isLost(s)) {
            return found(FOUND_NULL);
        }
        if (sheets.formOf(s) != form) {
            return found(FOUND_CAST);
        }
        return isBelow(i, sheets.sizeOf(s)) ? 0 : found(FOUND_INDEX);
    }

    private void measureAnew() {
        sun.measure();
        partsKnown = false;
        plantsKnown = false;
    }

    private void knowParts() {
        if (!partsKnown) {
            parting.part(ground, sun.years());
            partsKnown = true;
        }
    }

    /** Only the row of the cell is weighed: what stands in a row shades no other one. */
    private void weighLosses(int cell, int v) {
        Arrays.fill(losses, 0);
        int first = ground.rowStart(cell);
        int was = sun.build(cell, v);
        for (int other = first; other < first + ground.columns(); other++) {
            losses[owners[other]] += sun.yearOf(other) - sun.yearAsBuilt(other);
        }
        sun.build(cell, was);
    }

    private int mostLost() {
        int most = losses[0];
        for (int owner = 1; owner < OWNERS; owner++) {
            most = Math.max(most, losses[owner]);
        }
        return most;
    }

    private void weighFall(int cell) {
        int was = sun.build(cell, 0);
        for (int other = 0; other < ground.cells(); other++) {
            yearsAfterFall[other] = sun.yearAsBuilt(other);
        }
        sun.build(cell, was);
    }

    private int worthTo(int owner, int cell) {
        int sum = 0;
        for (int season = 0; season < SEASONS; season++) {
            sum += sun.hoursOf(cell, season) * sun.daysOf(season) * worths[owner * SEASONS + season];
        }
        return sum;
    }

    private boolean wouldRather(int own, int other) {
        return worthTo(owners[own], other) > worthTo(owners[own], own);
    }

    private boolean wouldSwap(int a, int b) {
        return owners[a] != owners[b] && wouldRather(a, b) && wouldRather(b, a);
    }

    private int countPairs() {
        int pairs = 0;
        for (int a = 0; a < ground.cells(); a++) {
            for (int b = a + 1; b < ground.cells(); b++) {
                if (wouldSwap(a, b)) {
                    pairs++;
                }
            }
        }
        return pairs;
    }

    /** A ring is told from its least cell on, so that each is met once. */
    private int countRings() {
        int rings = 0;
        for (int a = 0; a < ground.cells(); a++) {
            for (int b = a + 1; b < ground.cells(); b++) {
                for (int c = a + 1; c < ground.cells(); c++) {
                    if (isRing(a, b, c)) {
                        rings++;
                    }
                }
            }
        }
        return rings;
    }

    private boolean isRing(int a, int b, int c) {
        boolean unlike = owners[a] != owners[b] && owners[b] != owners[c] && owners[c] != owners[a];
        return unlike && wouldRather(a, b) && wouldRather(b, c) && wouldRather(c, a);
    }

    private boolean fitsAllSeen(int cell) {
        for (int i = 0; i < seenCount; i++) {
            if ((sun.bitsOf(cell, seenSeasons[i]) >> seenHours[i] & 1) == 0) {
                return false;
            }
        }
        return true;
    }

    private int countStanding() {
        int many = 0;
        for (int cell = 0; cell < ground.cells(); cell++) {
            if (sun.standingOn(cell) > 0) {
                many++;
            }
        }
        return many;
    }

    private int countOwners() {
        int bits = 0;
        for (int cell = 0; cell < ground.cells(); cell++) {
            bits |= 1 << owners[cell];
        }
        return Integer.bitCount(bits);
    }

    /** The text of the hill and the cells that it tells. */
    private static final class Ground {
        private static final int MOST_BYTES = 20, MOST_ROWS = 3, MOST_COLUMNS = 4;

        private final int[] text = new int[MOST_BYTES];
        private final int[] heights = new int[MOST_CELLS];
        private final int[] columnsOfCells = new int[MOST_CELLS];
        private int byteCount;
        private int rowCount;
        private int columnCount;
        private int cellCount;
        private int faultAt = NONE;

        int bytes() {
            return byteCount;
        }

        int rows() {
            return rowCount;
        }

        int columns() {
            return columnCount;
        }

        int cells() {
            return cellCount;
        }

        int faultPlace() {
            return faultAt;
        }

        int heightOf(int cell) {
            return heights[cell];
        }

        int columnOf(int cell) {
            return columnsOfCells[cell];
        }

        int rowStart(int cell) {
            return cell - columnsOfCells[cell];
        }

        boolean isFull() {
            return byteCount >= MOST_BYTES;
        }

        void append(int b) {
            if (!isFull()) {
                text[byteCount] = b;
                byteCount++;
                survey();
            }
        }

        void empty() {
            byteCount = 0;
            survey();
        }

        private void survey() {
            rowCount = 0;
            columnCount = 0;
            cellCount = 0;
            faultAt = findFault();
            if (faultAt == NONE && byteCount > 0) {
                layCells();
            }
        }

        private int findFault() {
            int row = 0;
            int figures = 0;
            int width = MOST_COLUMNS;
            for (int place = 0; place < byteCount; place++) {
                if (row == MOST_ROWS) {
                    return place;
                }
                if (isFigure(text[place]) && figures < width) {
                    figures++;
                } else if (text[place] == ';' && endsRow(row, figures, width)) {
                    width = figures;
                    figures = 0;
                    row++;
                } else {
                    return place;
                }
            }
            boolean whole = byteCount == 0 || row < MOST_ROWS && endsRow(row, figures, width);
            return whole ? NONE : byteCount;
        }

        private static boolean endsRow(int row, int figures, int width) {
            return row == 0 ? figures > 0 : figures == width;
        }

        private void layCells() {
            int column = 0;
            rowCount = 1;
            for (int place = 0; place < byteCount; place++) {
                if (text[place] == ';') {
                    rowCount++;
                    column = 0;
                } else if (cellCount < MOST_CELLS) {
                    heights[cellCount] = text[place] - '0';
                    columnsOfCells[cellCount] = column;
                    cellCount++;
                    column++;
                }
            }
            columnCount = column;
        }

        private static boolean isFigure(int b) {
            return b >= '0' && b <= '9';
        }
    }

    /** What stands on the cells, and the sun that they have. */
    private static final class Sun {
        private static final int EAST = -1, WEST = 1, HALF_BITS = 63;

        private final Ground ground = new Ground();
        private final int[] standing = new int[MOST_CELLS];
        private final int[] dayCounts = {90, 90, 90, 90};
        private final int[] lightBits = new int[MOST_CELLS * SEASONS];
        private final int[] sunHours = new int[MOST_CELLS * SEASONS];
        private final int[] cellYears = new int[MOST_CELLS];

        static int steepness(int season, int hour) {
            return (season + 1) * (hour < HALF_DAY ? hour + 1 : HOURS - hour);
        }

        int standingOn(int cell) {
            return standing[cell];
        }

        /** What was measured stays as it was, so that a trial can be weighed against it. */
        int build(int cell, int v) {
            int was = standing[cell];
            standing[cell] = v;
            return was;
        }

        int daysOf(int season) {
            return dayCounts[season];
        }

        int lengthen(int season, int v) {
            int was = dayCounts[season];
            dayCounts[season] = v;
            return was;
        }

        int allDays() {
            int sum = 0;
            for (int season = 0; season < SEASONS; season++) {
                sum += dayCounts[season];
            }
            return sum;
        }

        int[] years() {
            return cellYears;
        }

        int yearOf(int cell) {
            return cellYears[cell];
        }

        int allYears() {
            int sum = 0;
            for (int cell = 0; cell < ground.cells(); cell++) {
                sum += cellYears[cell];
            }
            return sum;
        }

        int bitsOf(int cell, int season) {
            return lightBits[cell * SEASONS + season];
        }

        int hoursOf(int cell, int season) {
            return sunHours[cell * SEASONS + season];
        }

        void measure() {
            for (int cell = 0; cell < ground.cells(); cell++) {
                for (int season = 0; season < SEASONS; season++) {
                    int bits = bitsAsBuilt(cell, season);
                    lightBits[cell * SEASONS + season] = bits;
                    sunHours[cell * SEASONS + season] = Integer.bitCount(bits);
                }
                cellYears[cell] = yearAsBuilt(cell);
            }
        }

        int yearAsBuilt(int cell) {
            int year = 0;
            for (int season = 0; season < SEASONS; season++) {
                int dark = darkHours(cell, season, EAST) + darkHours(cell, season, WEST);
                year += (HOURS - dark) * dayCounts[season];
            }
            return year;
        }

        int nearestShader(int cell, int season, int hour) {
            int side = hour < HALF_DAY ? EAST : WEST;
            int reach = reachOf(cell, side);
            for (int d = 1; d <= reach; d++) {
                if (rise(cell, side * d) > d * steepness(season, hour)) {
                    return cell + side * d;
                }
            }
            return NONE;
        }

        /** The lowest sun is dark first: at dawn the first hours of the east, at dusk the last of the west. */
        private int bitsAsBuilt(int cell, int season) {
            int dawn = darkHours(cell, season, EAST);
            int dusk = darkHours(cell, season, WEST);
            return HALF_BITS >> dawn << dawn | HALF_BITS >> dusk << HALF_DAY;
        }

        /** The sun of a side is 1 to 6 times the season's slope steep: how many of these are too low. */
        private int darkHours(int cell, int season, int side) {
            int dark = 0;
            int reach = reachOf(cell, side);
            for (int d = 1; d <= reach; d++) {
                int rise = rise(cell, side * d);
                int slope = d * (season + 1);
                while (dark < HALF_DAY && rise > slope * (dark + 1)) {
                    dark++;
                }
            }
            return dark;
        }

        private int reachOf(int cell, int side) {
            int column = ground.columnsOfCells[cell];
            return side == EAST ? column : ground.columnCount - 1 - column;
        }

        private int rise(int cell, int away) {
            int other = cell + away;
            return ground.heights[other] + standing[other] - ground.heights[cell];
        }
    }

    /** The ways to part the cells in two that each hang together. */
    private static final class Parting {
        private static final int HALF_CELLS = 6, HALF_SUMS = 64;

        // The sum of a part is that of its low six cells and that of its high ones.
        private final int[] lowSums = new int[HALF_SUMS];
        private final int[] highSums = new int[HALF_SUMS];
        private int cells;
        private int columns;
        private int all;
        private int eastColumn;
        private int westColumn;
        private int first = NONE;
        private int difference = NONE;
        private int firstAfter = NONE;
        private int moved = NONE;

        int firstPart() {
            return first;
        }

        int leastDifference() {
            return difference;
        }

        int partAfter() {
            return firstAfter;
        }

        int fewestMoved() {
            return moved;
        }

        void part(Ground ground, int[] years) {
            prepare(ground, years);
            first = NONE;
            difference = NONE;
            for (int part = 1; part < all; part += 2) {
                int apart = differenceOf(part);
                if ((difference == NONE || apart < difference) && bothHang(part)) {
                    difference = apart;
                    first = part;
                }
            }
        }

        void partAgain(Ground ground, int[] years, int d) {
            prepare(ground, years);
            firstAfter = NONE;
            moved = NONE;
            for (int part = 1; part < all; part += 2) {
                int moves = Integer.bitCount(part ^ first);
                if ((moved == NONE || moves < moved) && differenceOf(part) <= d && bothHang(part)) {
                    moved = moves;
                    firstAfter = part;
                }
            }
        }

        private void prepare(Ground ground, int[] years) {
            cells = ground.cells();
            columns = ground.columns();
            all = (1 << cells) - 1;
            eastColumn = 0;
            westColumn = 0;
            for (int cell = 0; cell < cells; cell++) {
                int column = ground.columnOf(cell);
                eastColumn |= column == 0 ? 1 << cell : 0;
                westColumn |= column == columns - 1 ? 1 << cell : 0;
            }
            fillSums(lowSums, years, 0);
            fillSums(highSums, years, HALF_CELLS);
        }

        private void fillSums(int[] sums, int[] years, int from) {
            sums[0] = 0;
            for (int i = 0; i < HALF_CELLS; i++) {
                int cell = from + i;
                int year = cell < cells ? years[cell] : 0;
                for (int below = 0; below < 1 << i; below++) {
                    sums[below | 1 << i] = sums[below] + year;
                }
            }
        }

        private int sumOf(int part) {
            return lowSums[part & HALF_SUMS - 1] + highSums[part >> HALF_CELLS & HALF_SUMS - 1];
        }

        private int differenceOf(int part) {
            return Math.abs(sumOf(part) - sumOf(all & ~part));
        }

        private boolean bothHang(int part) {
            return hangs(part) && hangs(all & ~part);
        }

        private boolean hangs(int part) {
            int reached = part & -part;
            for (int step = 0; step < MOST_CELLS; step++) {
                int further = reached | nextTo(reached) & part;
                if (further == reached) {
                    break;
                }
                reached = further;
            }
            return reached == part;
        }

        private int nextTo(int part) {
            int west = (part & ~westColumn) << 1;
            int east = (part & ~eastColumn) >> 1;
            return west | east | part << columns | part >> columns;
        }
    }

    /** Sorts of vines, set so that most is paid. */
    private static final class Planting {
        private static final int MOST_EACH = 4, STATES = 125;

        private final int[] needs = {1000, 1000, 1000};
        private final int[] pays = {10, 20, 30};
        private final int[] sorts = new int[MOST_CELLS];
        // What cells from one on can pay at most, by how many of each sort stand ahead of it.
        private final int[] most = new int[(MOST_CELLS + 1) * STATES];

        int changeNeed(int sort, int v) {
            int was = needs[sort];
            needs[sort] = v;
            return was;
        }

        int changePay(int sort, int v) {
            int was = pays[sort];
            pays[sort] = v;
            return was;
        }

        int mostPaid() {
            return most[0];
        }

        int sortOn(int cell) {
            return sorts[cell];
        }

        void plant(int[] years, int cells) {
            for (int state = 0; state < STATES; state++) {
                most[cells * STATES + state] = 0;
            }
            for (int cell = cells - 1; cell >= 0; cell--) {
                for (int state = 0; state < STATES; state++) {
                    most[cell * STATES + state] = bestFrom(cell, state, years[cell]);
                }
            }
            int ahead = 0;
            for (int cell = 0; cell < cells; cell++) {
                sorts[cell] = leastSort(cell, ahead, years[cell]);
                ahead += weightOf(sorts[cell]);
            }
        }

        private int bestFrom(int cell, int state, int year) {
            int best = payFrom(cell, state, NONE);
            for (int sort = 0; sort < SORTS; sort++) {
                if (mayStand(state, sort, year)) {
                    best = Math.max(best, payFrom(cell, state, sort));
                }
            }
            return best;
        }

        private int leastSort(int cell, int state, int year) {
            int best = most[cell * STATES + state];
            if (payFrom(cell, state, NONE) == best) {
                return NONE;
            }
            for (int sort = 0; sort < SORTS; sort++) {
                if (mayStand(state, sort, year) && payFrom(cell, state, sort) == best) {
                    return sort;
                }
            }
            return NONE;
        }

        private boolean mayStand(int state, int sort, int year) {
            return year >= needs[sort] && standAhead(state, sort) < MOST_EACH;
        }

        private int payFrom(int cell, int state, int sort) {
            int later = most[(cell + 1) * STATES + state + weightOf(sort)];
            return sort == NONE ? later : pays[sort] + later;
        }

        private static int standAhead(int state, int sort) {
            if (sort == 0) {
                return state % 5;
            }
            return sort == 1 ? state / 5 % 5 : state / 25;
        }

        private static int weightOf(int sort) {
            if (sort == NONE) {
                return 0;
            }
            if (sort == 0) {
                return 1;
            }
            return sort == 1 ? 5 : 25;
        }
    }

    /** Hours without clouds, each by itself, as a fraction in lowest terms. */
    private static final class Chance {
        private static final int MOST_HALVINGS = 4 * HOURS;

        private final long[] ways = new long[HOURS + 1];
        private long upper;
        private long lower = 1;

        long above() {
            return upper;
        }

        long below() {
            return lower;
        }

        void takeMean(int sunny, int cloudy) {
            upper = sunny * (SIXTEENTHS - cloudy);
            lower = SIXTEENTHS;
            reduce();
        }

        void takeAtLeast(int sunny, int cloudy, int k) {
            countWays(sunny, cloudy);
            upper = 0;
            for (int many = k; many <= HOURS; many++) {
                upper += ways[many];
            }
            reduce();
        }

        /** Of the sixteen ways that each hour can go: in how many are so many of the hours clear. */
        private void countWays(int sunny, int cloudy) {
            Arrays.fill(ways, 0L);
            ways[0] = 1;
            lower = 1;
            for (int hour = 0; hour < sunny; hour++) {
                for (int many = HOURS; many > 0; many--) {
                    ways[many] = ways[many] * cloudy + ways[many - 1] * (SIXTEENTHS - cloudy);
                }
                ways[0] *= cloudy;
                lower *= SIXTEENTHS;
            }
        }

        /** What is below is a power of two, so that halving is enough. */
        private void reduce() {
            for (int halved = 0; halved < MOST_HALVINGS && lower > 1 && (upper & 1) == 0; halved++) {
                upper >>= 1;
                lower >>= 1;
            }
        }
    }

    /** Rows of items by hand. */
    private static final class Sheets {
        private static final int LOST = -1;

        private final int[] items = new int[SHEETS * MOST_ITEMS];
        private final int[] forms = new int[SHEETS];
        private final int[] sizes = {LOST, LOST, LOST, LOST};

        boolean isLost(int s) {
            return sizes[s] == LOST;
        }

        int sizeOf(int s) {
            return sizes[s];
        }

        int formOf(int s) {
            return forms[s];
        }

        void lay(int s, int form, int n) {
            forms[s] = form;
            sizes[s] = n;
            for (int i = 0; i < n; i++) {
                items[s * MOST_ITEMS + i] = 0;
            }
        }

        void drop(int s) {
            sizes[s] = LOST;
        }

        int itemAt(int s, int i) {
            return items[s * MOST_ITEMS + i];
        }

        void store(int s, int i, int v) {
            items[s * MOST_ITEMS + i] = narrow(forms[s], v);
        }

        /** Told without a sum, which could wrap. */
        boolean holds(int s, int i, int n) {
            return i >= 0 && n >= 0 && i <= sizes[s] && n <= sizes[s] - i;
        }

        void carry(int s, int i, int t, int j, int n) {
            System.arraycopy(items, s * MOST_ITEMS + i, items, t * MOST_ITEMS + j, n);
        }

        private static int narrow(int form, int v) {
            if (form == 0) {
                return (byte) v;
            }
            return form == 1 ? (short) v : v;
        }
    }
}
