import java.util.Arrays;

/**
 * Grounds whose roads, or places, are open by chance: in how many settings one comes through,
 * what hangs together, and sheets of numbers that kinds are read from.
 *
 * <p>Sets of places are masks of an int throughout: a call that counts goes over up to 4096
 * settings, and masks let it do so without making a single object.
 */
public final class OpenGrounds {
    public static final int BAD = -1, STATE = -2, FULL = -3, NONE = -9, NULL = -11, INDEX = -12, CAST = -13, SIZE = -15;

    private static final int SHUT = 0, SURE = 1, CHANCE = 2, TWIN = 3, AGAINST = 4;
    private static final int BYTES = 0, INTS = 1;
    private static final int FINE = 0;

    private static final int MOST_LINES = 5;
    private static final int MOST_PLACES = 25;
    private static final int MOST_THINGS = 40;
    private static final int MOST_CHANCES = 12;
    private static final int MOST_WAYS = 4;
    private static final int MOST_BELOW = 9;
    private static final int MOST_SHEETS = 3;
    private static final int MOST_SHEET_ROWS = 4;
    private static final int MOST_NUMBERS = 40;

    /** Roads to the right and roads down share one long: those down begin at this bit. */
    private static final int DOWN = 32;

    /** By kind: every kind asks the one above it once (a twin its elder, which is a chance one). */
    private static final int[] BODIES_ASKED = {1, 11, 111, 1111, 11111};

    private final Plan plan = new Plan();
    private final Things things = new Things(plan);
    private final Grid places = new Grid();
    private final Grid gaps = new Grid();
    private final Sheet[] sheets = new Sheet[MOST_SHEETS];
    private long asked = 0;
    private int finding = FINE;

    public OpenGrounds() {
        layGround(2, 2, false);
    }

    // ---- the ground

    public int ground(int rows, int columns, boolean ofPlaces) {
        if (!isWithin(rows, 1, MOST_LINES) || !isWithin(columns, 1, MOST_LINES)) {
            return BAD;
        }
        layGround(rows, columns, ofPlaces);
        return plan.things;
    }

    public int kind(int thing, int kind) {
        if (!isThing(thing) || !isWithin(kind, SHUT, CHANCE)) {
            return BAD;
        }
        if (kind != CHANCE && things.isElder(thing)) {
            return STATE;
        }
        if (kind == CHANCE && things.kinds[thing] != CHANCE && things.chances >= MOST_CHANCES) {
            return FULL;
        }
        return things.become(thing, kind, NONE);
    }

    public int twin(int thing, int elder, boolean against) {
        if (!isThing(thing) || !isThing(elder) || thing == elder || things.kinds[elder] != CHANCE) {
            return BAD;
        }
        if (things.isElder(thing)) {
            return STATE;
        }
        return things.become(thing, against ? AGAINST : TWIN, elder);
    }

    public int about(int thing, int what) {
        if (!isThing(thing)) {
            return BAD;
        }
        switch (what) {
            case 0:
                return things.kinds[thing];
            case 1:
                return things.elders[thing];
            case 2:
                return things.numbers[thing];
            case 3:
                return plan.placeOf(thing);
            case 4:
                return plan.otherPlaceOf(thing);
            default:
                return BAD;
        }
    }

    public int told(int what) {
        switch (what) {
            case 0:
                return plan.rows;
            case 1:
                return plan.columns;
            case 2:
                return oneIf(plan.ofPlaces);
            case 3:
                return plan.things;
            case 4:
                return things.chances;
            case 5:
                return things.younger();
            default:
                return BAD;
        }
    }

    // ---- one setting

    public int opens(int thing, int setting) {
        if (!isThing(thing) || !isSetting(setting)) {
            return BAD;
        }
        asked += BODIES_ASKED[things.kinds[thing]];
        return (int) (things.openBy(setting) >>> plan.slots[thing] & 1L);
    }

    public int through(int setting, int way) {
        if (!isSetting(setting) || !isWithin(way, 0, 1)) {
            return BAD;
        }
        return oneIf(placesBy(setting).isCrossed(way));
    }

    public int wall(int setting, int way) {
        if (!isSetting(setting) || !isWithin(way, 0, 1)) {
            return BAD;
        }
        if (plan.ofPlaces) {
            return STATE;
        }
        return oneIf(isWalled(setting, way));
    }

    public int heap(int setting, int place) {
        if (!isSetting(setting) || !isPlace(place)) {
            return BAD;
        }
        int together = placesBy(setting).heapAt(place);
        return together == 0 ? NONE : Integer.numberOfTrailingZeros(together);
    }

    public int heaps(int setting, int what) {
        if (!isSetting(setting) || !isWithin(what, 0, 1)) {
            return BAD;
        }
        Grid grid = placesBy(setting);
        return what == 0 ? grid.heapCount() : grid.greatestHeap();
    }

    // ---- counts

    public int count(int way, int k) {
        if (!isWay(way) || !isSize(k)) {
            return BAD;
        }
        return waysOfSize(way, k);
    }

    public int walls(int way, int k) {
        if (plan.ofPlaces) {
            return STATE;
        }
        if (!isWithin(way, 0, 1) || !isSize(k)) {
            return BAD;
        }
        int counted = 0;
        for (int setting = 0; setting < settings(); setting++) {
            if (Integer.bitCount(setting) == k && isWalled(setting, way)) {
                counted++;
            }
        }
        return counted;
    }

    public int joined(int a, int b, int k) {
        if (!isPlace(a) || !isPlace(b) || !isSize(k)) {
            return BAD;
        }
        int counted = 0;
        for (int setting = 0; setting < settings(); setting++) {
            if (Integer.bitCount(setting) == k && has(placesBy(setting).heapAt(a), b)) {
                counted++;
            }
        }
        return counted;
    }

    public int sized(int place, int n, int k) {
        if (!isPlace(place) || !isWithin(n, 0, MOST_PLACES) || !isSize(k)) {
            return BAD;
        }
        int counted = 0;
        for (int setting = 0; setting < settings(); setting++) {
            if (Integer.bitCount(setting) == k && Integer.bitCount(placesBy(setting).heapAt(place)) == n) {
                counted++;
            }
        }
        return counted;
    }

    public int heapSum(int k) {
        if (!isSize(k)) {
            return BAD;
        }
        int sum = 0;
        for (int setting = 0; setting < settings(); setting++) {
            if (Integer.bitCount(setting) == k) {
                sum += placesBy(setting).heapCount();
            }
        }
        return sum;
    }

    public long chance(int way, int p, int q) {
        if (!isWay(way) || !isWithin(q, 1, MOST_BELOW) || !isWithin(p, 0, q)) {
            return BAD;
        }
        long above = 0;
        for (int k = 0; k <= things.chances; k++) {
            above += waysOfSize(way, k) * power(p, k) * power(q - p, things.chances - k);
        }
        return above;
    }

    public int pivot(int way, int i) {
        if (!isWay(way) || !isWithin(i, 0, things.chances - 1)) {
            return BAD;
        }
        int counted = 0;
        for (int setting = 0; setting < settings(); setting++) {
            if (has(setting, i) && comesThrough(setting, way) && !comesThrough(setting & ~(1 << i), way)) {
                counted++;
            }
        }
        return counted;
    }

    public int first(int way, int k) {
        if (!isWay(way) || !isSize(k)) {
            return BAD;
        }
        for (int setting = 0; setting < settings(); setting++) {
            if (Integer.bitCount(setting) == k && comesThrough(setting, way)) {
                return setting;
            }
        }
        return NONE;
    }

    // ---- sheets

    public int sheet(int sheet, int sort, int n) {
        finding = sheetFinding(sheet, sort, n);
        if (finding != FINE) {
            return finding;
        }
        sheets[sheet] = new Sheet(sort, new int[n][]);
        return 1;
    }

    public int row(int sheet, int r, int n) {
        finding = newRowFinding(sheet, r, n);
        if (finding != FINE) {
            return finding;
        }
        sheets[sheet].rows[r] = new int[n];
        return 1;
    }

    public int put(int sheet, int sort, int r, int i, int v) {
        finding = putFinding(sheet, sort, r, i);
        if (finding != FINE) {
            return finding;
        }
        sheets[sheet].rows[r][i] = sort == BYTES ? (byte) v : v;
        return 1;
    }

    public int copy(int sheet, int r, int i, int other, int s, int j, int n) {
        finding = copyFinding(sheet, r, i, other, s, j, n);
        if (finding != FINE) {
            return finding;
        }
        System.arraycopy(sheets[sheet].rows[r], i, sheets[other].rows[s], j, n);
        return n;
    }

    public int read(int sheet, int r) {
        if (!isSheet(sheet)) {
            finding = BAD;
            return BAD;
        }
        finding = rowFinding(sheets[sheet], r);
        if (finding != FINE) {
            return 0;
        }
        return readKinds(sheets[sheet].rows[r]);
    }

    // ---- what is told

    public long trace() {
        return asked;
    }

    public int status() {
        return finding;
    }

    // ---- within: numbers that are as told

    private static boolean isWithin(int number, int least, int most) {
        return least <= number && number <= most;
    }

    private boolean isThing(int thing) {
        return isWithin(thing, 0, plan.things - 1);
    }

    private boolean isPlace(int place) {
        return isWithin(place, 0, plan.rows * plan.columns - 1);
    }

    private boolean isSetting(int setting) {
        return isWithin(setting, 0, settings() - 1);
    }

    private boolean isSize(int k) {
        return isWithin(k, 0, things.chances);
    }

    private static boolean isWay(int way) {
        return isWithin(way, 0, MOST_WAYS - 1);
    }

    private static boolean isSheet(int sheet) {
        return isWithin(sheet, 0, MOST_SHEETS - 1);
    }

    private static boolean isSort(int sort) {
        return sort == BYTES || sort == INTS;
    }

    private static int oneIf(boolean holds) {
        return holds ? 1 : 0;
    }

    private static boolean has(int mask, int member) {
        return (mask >>> member & 1) == 1;
    }

    // ---- within: settings

    private void layGround(int rows, int columns, boolean ofPlaces) {
        plan.lay(rows, columns, ofPlaces);
        things.makeSure();
        places.rows = rows;
        places.columns = columns;
    }

    private int settings() {
        return 1 << things.chances;
    }

    private Grid placesBy(int setting) {
        long open = things.openBy(setting);
        if (plan.ofPlaces) {
            int cells = (int) open;
            places.cells = cells;
            places.right = plan.roadsRight & cells & cells >>> 1;
            places.down = plan.roadsDown & cells & cells >>> plan.columns;
        } else {
            places.cells = plan.allPlaces;
            places.right = (int) open;
            places.down = (int) (open >>> DOWN);
        }
        return places;
    }

    private boolean isWalled(int setting, int way) {
        long open = things.openBy(setting);
        int shutRight = plan.roadsRight & ~(int) open;
        int shutDown = plan.roadsDown & ~(int) (open >>> DOWN);
        if (way == 0) {
            gaps.layBetween(plan.rows, plan.columns, shutRight, shutDown);
        } else {
            gaps.layBetween(plan.columns, plan.rows, plan.exchanged(shutDown), plan.exchanged(shutRight));
        }
        return gaps.isCrossed(1);
    }

    private boolean comesThrough(int setting, int way) {
        Grid grid = placesBy(setting);
        switch (way) {
            case 2:
                return grid.isCrossed(0) && grid.isCrossed(1);
            case 3:
                return grid.isCrossed(0) || grid.isCrossed(1);
            default:
                return grid.isCrossed(way);
        }
    }

    private int waysOfSize(int way, int k) {
        int counted = 0;
        for (int setting = 0; setting < settings(); setting++) {
            if (Integer.bitCount(setting) == k && comesThrough(setting, way)) {
                counted++;
            }
        }
        return counted;
    }

    private static long power(int base, int exponent) {
        long product = 1;
        for (int i = 0; i < exponent; i++) {
            product *= base;
        }
        return product;
    }

    // ---- within: what sheets are refused by, in the document's order

    private static int sheetFinding(int sheet, int sort, int n) {
        if (!isSheet(sheet) || !isSort(sort) || n > MOST_SHEET_ROWS) {
            return BAD;
        }
        return n < 0 ? SIZE : FINE;
    }

    private int newRowFinding(int sheet, int r, int n) {
        if (!isSheet(sheet) || n > MOST_NUMBERS) {
            return BAD;
        }
        if (sheets[sheet] == null) {
            return NULL;
        }
        if (!sheets[sheet].hasRow(r)) {
            return INDEX;
        }
        return n < 0 ? SIZE : FINE;
    }

    private int putFinding(int sheet, int sort, int r, int i) {
        if (!isSheet(sheet) || !isSort(sort)) {
            return BAD;
        }
        Sheet into = sheets[sheet];
        if (into != null && into.sort != sort) {
            return CAST;
        }
        int found = rowFinding(into, r);
        if (found != FINE) {
            return found;
        }
        return into.holds(r, i, 1) ? FINE : INDEX;
    }

    private int copyFinding(int sheet, int r, int i, int other, int s, int j, int n) {
        if (!isSheet(sheet) || !isSheet(other)) {
            return BAD;
        }
        Sheet from = sheets[sheet];
        Sheet into = sheets[other];
        if (from == null || into == null) {
            return NULL;
        }
        if (from.sort != into.sort) {
            return CAST;
        }
        if (!from.hasRow(r) || !into.hasRow(s)) {
            return INDEX;
        }
        if (from.rows[r] == null || into.rows[s] == null) {
            return NULL;
        }
        return from.holds(r, i, n) && into.holds(s, j, n) ? FINE : INDEX;
    }

    private static int rowFinding(Sheet sheet, int r) {
        if (sheet == null) {
            return NULL;
        }
        if (!sheet.hasRow(r)) {
            return INDEX;
        }
        return sheet.rows[r] == null ? NULL : FINE;
    }

    private int readKinds(int[] kinds) {
        int ends = Math.min(kinds.length, plan.things);
        for (int thing = 0; thing < ends; thing++) {
            int answer = kind(thing, kinds[thing]);
            if (answer < 0) {
                finding = answer;
                return thing;
            }
        }
        return ends;
    }

    /** Where places and roads lie. */
    private static final class Plan {
        int rows;
        int columns;
        boolean ofPlaces;
        int things;
        int allPlaces;
        int roadsRight;
        int roadsDown;
        /** The bit of each thing among all that is open: its (first) place, from DOWN on for roads down. */
        final int[] slots = new int[MOST_THINGS];

        void lay(int newRows, int newColumns, boolean newOfPlaces) {
            rows = newRows;
            columns = newColumns;
            ofPlaces = newOfPlaces;
            allPlaces = corner(rows, columns);
            roadsRight = corner(rows, columns - 1);
            roadsDown = corner(rows - 1, columns);
            things = 0;
            if (ofPlaces) {
                addThings(allPlaces, 0);
            } else {
                addThings(roadsRight, 0);
                addThings(roadsDown, DOWN);
            }
        }

        /** The places of the upper left corner of the ground that has so many rows and columns. */
        private int corner(int height, int width) {
            int mask = 0;
            for (int r = 0; r < height; r++) {
                for (int c = 0; c < width; c++) {
                    mask |= 1 << r * columns + c;
                }
            }
            return mask;
        }

        private void addThings(int mask, int base) {
            for (int place = 0; place < MOST_PLACES; place++) {
                if (has(mask, place) && things < MOST_THINGS) {
                    slots[things] = base + place;
                    things++;
                }
            }
        }

        int placeOf(int thing) {
            return slots[thing] % DOWN;
        }

        int otherPlaceOf(int thing) {
            if (ofPlaces) {
                return placeOf(thing);
            }
            return placeOf(thing) + (slots[thing] < DOWN ? 1 : columns);
        }

        /** The same places in the ground with rows and columns exchanged. */
        int exchanged(int mask) {
            int turned = 0;
            for (int r = 0; r < rows; r++) {
                for (int c = 0; c < columns; c++) {
                    if (has(mask, r * columns + c)) {
                        turned |= 1 << c * rows + r;
                    }
                }
            }
            return turned;
        }
    }

    /** The kinds and elders of a plan's things, and what follows from them for every setting. */
    private static final class Things {
        final Plan plan;
        final int[] kinds = new int[MOST_THINGS];
        final int[] elders = new int[MOST_THINGS];
        final int[] numbers = new int[MOST_THINGS];
        int chances;
        /** Slots that are open by every setting, and by those in which chance one i has, or has not, its way. */
        long always;
        final long[] withWay = new long[MOST_CHANCES];
        final long[] withoutWay = new long[MOST_CHANCES];

        Things(Plan plan) {
            this.plan = plan;
        }

        void makeSure() {
            Arrays.fill(kinds, SURE);
            Arrays.fill(elders, NONE);
            settle();
        }

        int become(int thing, int kind, int elder) {
            int was = kinds[thing];
            kinds[thing] = kind;
            elders[thing] = elder;
            settle();
            return was;
        }

        boolean isElder(int thing) {
            for (int other = 0; other < plan.things; other++) {
                if (elders[other] == thing) {
                    return true;
                }
            }
            return false;
        }

        int younger() {
            int counted = 0;
            for (int thing = 0; thing < plan.things; thing++) {
                if (elders[thing] != NONE) {
                    counted++;
                }
            }
            return counted;
        }

        long openBy(int setting) {
            long open = always;
            for (int i = 0; i < chances; i++) {
                open |= has(setting, i) ? withWay[i] : withoutWay[i];
            }
            return open;
        }

        private void settle() {
            numberChances();
            always = 0;
            Arrays.fill(withWay, 0L);
            Arrays.fill(withoutWay, 0L);
            for (int thing = 0; thing < plan.things; thing++) {
                settleOne(thing, 1L << plan.slots[thing]);
            }
        }

        private void numberChances() {
            chances = 0;
            for (int thing = 0; thing < plan.things; thing++) {
                numbers[thing] = NONE;
                if (kinds[thing] == CHANCE) {
                    numbers[thing] = chances;
                    chances++;
                }
            }
        }

        private void settleOne(int thing, long slot) {
            switch (kinds[thing]) {
                case SURE:
                    always |= slot;
                    break;
                case CHANCE:
                    withWay[numbers[thing]] |= slot;
                    break;
                case TWIN:
                    withWay[numbers[elders[thing]]] |= slot;
                    break;
                case AGAINST:
                    withoutWay[numbers[elders[thing]]] |= slot;
                    break;
                default:
                    break;
            }
        }
    }

    /** Cells by rows, some joined to the one right of them or below them: places, or the gaps of a wall. */
    private static final class Grid {
        int rows;
        int columns;
        int cells;
        int right;
        int down;

        /** The gaps between the places of a ground, joined over its roads that are not open. */
        void layBetween(int groundRows, int groundColumns, int shutRight, int shutDown) {
            rows = groundRows + 1;
            columns = groundColumns - 1;
            cells = (1 << rows * columns) - 1;
            right = 0;
            down = 0;
            for (int r = 0; r < groundRows; r++) {
                for (int c = 0; c < columns; c++) {
                    int place = r * groundColumns + c;
                    if (has(shutRight, place)) {
                        down |= 1 << r * columns + c;
                    }
                    if (c < columns - 1 && has(shutDown, place + 1)) {
                        right |= 1 << (r + 1) * columns + c;
                    }
                }
            }
        }

        /** Way 0 from the first column to the last one, way 1 from the first row to the last one. */
        boolean isCrossed(int way) {
            if (way == 0) {
                return (spread(line(0, columns, rows)) & line(columns - 1, columns, rows)) != 0;
            }
            return (spread(line(0, 1, columns)) & line((rows - 1) * columns, 1, columns)) != 0;
        }

        int heapAt(int cell) {
            return spread(1 << cell);
        }

        int heapCount() {
            int counted = 0;
            int rest = cells;
            for (int cell = 0; cell < MOST_PLACES; cell++) {
                if (has(rest, cell)) {
                    rest &= ~heapAt(cell);
                    counted++;
                }
            }
            return counted;
        }

        int greatestHeap() {
            int greatest = 0;
            for (int cell = 0; cell < MOST_PLACES; cell++) {
                greatest = Math.max(greatest, Integer.bitCount(heapAt(cell)));
            }
            return greatest;
        }

        private static int line(int from, int step, int length) {
            int mask = 0;
            for (int i = 0; i < length; i++) {
                mask |= 1 << from + i * step;
            }
            return mask;
        }

        /** All cells that hang together with one of these; every step but the last adds a cell. */
        private int spread(int from) {
            int reached = from & cells;
            for (int step = 0; step < MOST_PLACES; step++) {
                int wider = reached
                        | (reached & right) << 1 | reached >>> 1 & right
                        | (reached & down) << columns | reached >>> columns & down;
                if (wider == reached) {
                    break;
                }
                reached = wider;
            }
            return reached;
        }
    }

    /** Rows of one sort; a row that is missing is null. Bytes are held as the ints that they widen to. */
    private static final class Sheet {
        final int sort;
        final int[][] rows;

        Sheet(int sort, int[][] rows) {
            this.sort = sort;
            this.rows = rows;
        }

        boolean hasRow(int r) {
            return 0 <= r && r < rows.length;
        }

        /** Whether a row that is there has n numbers from i on. */
        boolean holds(int r, int i, int n) {
            int length = rows[r].length;
            return n >= 0 && i >= 0 && n <= length && i <= length - n;
        }
    }
}
