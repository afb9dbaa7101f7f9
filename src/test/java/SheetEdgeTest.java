/** The boundary cases of sheets: promises 20 to 23, each test with the sentence of the document that it holds. */
public final class SheetEdgeTest {
    private static final Due due = new Due("SheetEdgeTest");
    private static final int BAD = -1, NULL = -11, INDEX = -12, CAST = -13, SIZE = -15;
    private static final int BYTES = 0, INTS = 1;
    private static final int LEAST = Integer.MIN_VALUE, GREATEST = Integer.MAX_VALUE;

    /**
     * SHEET 0 of BYTES (ROW 0 of 40, 1 of none, 2 MISSING, 3 of three), 1 of INTS (ROW 0 of five, 1 MISSING), no
     * SHEET 2.
     */
    private static final Edge sheets = new Edge(due, Scenes::roads);
    /** SHEET 0 as above, 2 of BYTES (ROW 0 MISSING, 1 of four), no SHEET 1. */
    private static final Edge ofBytes = new Edge(due, SheetEdgeTest::twoOfBytes);
    private static final Edge fresh = new Edge(due, x -> { });
    /** SHEET 0 of BYTES and 1 of INTS, both of no ROWS. */
    private static final Edge ofNoRows = new Edge(due, SheetEdgeTest::twoOfNoRows);

    public static void main(String[] args) {
        sheetNumbers();
        sheetSorts();
        sheetRows();
        sheetBelowZero();
        sheetBadFirst();
        sheetAllMissing();
        sheetAnew();
        rowSheets();
        rowNoSheet();
        rowNoRow();
        rowNumbers();
        rowBelowZero();
        rowOrder();
        rowIsNew();
        rowsOfForty();
        rowsFor512Calls();
        putSheets();
        putSorts();
        putNoSheet();
        putOtherSort();
        putNoRow();
        putMissing();
        putNoNumber();
        putOrder();
        putBytesWrap();
        putIntsDoNot();
        putOneNumber();
        copySheets();
        copyNoSheet();
        copyTwoSorts();
        copyNoRow();
        copyMissing();
        copyNotThere();
        copyBelowZero();
        copyTooMany();
        copyWrapsAround();
        copyNone();
        copyAll();
        copyOneSheet();
        copyAsTheyWere();
        copyOrder();
        due.end();
    }

    private static void twoOfBytes(OpenGrounds x) {
        Scenes.roads(x);
        x.sheet(2, BYTES, 2);
        Scenes.fill(x, 2, BYTES, 1, 1, 1, 2, 0);
    }

    private static void twoOfNoRows(OpenGrounds x) {
        x.sheet(0, BYTES, 0);
        x.sheet(1, INTS, 0);
    }

    private static OpenGrounds played() {
        OpenGrounds x = new OpenGrounds();
        Scenes.roads(x);
        return x;
    }

    /** The numbers of a ROW, told by the KINDS that forty ROADS become. */
    private static void rowTells(String what, OpenGrounds x, int sheet, int r, int... numbers) {
        x.ground(5, 5, false);
        due.is(what + ": how many", x.read(sheet, r), numbers.length);
        for (int i = 0; i < numbers.length; i++) {
            due.is(what + ": number " + i, x.about(i, 0), numbers[i]);
        }
    }

    // ---- promise 20

    /** Promise 20, Terms: "SHEETS (3 at most at 0 .. 2)". */
    private static void sheetNumbers() {
        for (int sheet = 0; sheet <= 2; sheet++) {
            int number = sheet;
            sheets.done("20: sheet(" + sheet + ", 0, 1)", x -> x.sheet(number, BYTES, 1), 1);
        }
        for (int sheet : Edge.outside(0, 2)) {
            sheets.refusedSheet("20: sheet(" + sheet + ", 0, 1)", x -> x.sheet(sheet, BYTES, 1), BAD);
            fresh.refusedSheet("20: sheet(" + sheet + ", 1, 0)", x -> x.sheet(sheet, INTS, 0), BAD);
        }
    }

    /** Promise 20, Terms: "of a SORT: 0 BYTES, 1 INTS". */
    private static void sheetSorts() {
        OpenGrounds x = new OpenGrounds();
        x.sheet(0, BYTES, 1);
        x.sheet(1, INTS, 1);
        due.is("20: BYTES are no INTS", x.put(0, INTS, 0, 0, 0), CAST);
        due.is("20: INTS are no BYTES", x.put(1, BYTES, 0, 0, 0), CAST);
        for (int sort : Edge.outside(0, 1)) {
            sheets.refusedSheet("20: sheet(0, " + sort + ", 1)", y -> y.sheet(0, sort, 1), BAD);
            sheets.refusedSheet("20: sheet(2, " + sort + ", 0)", y -> y.sheet(2, sort, 0), BAD);
        }
    }

    /** Promise 20: "A SHEET gets n (4 at most) ROWS of a SORT". */
    private static void sheetRows() {
        for (int n = 0; n <= 4; n++) {
            int rows = n;
            sheets.done("20: sheet(2, 1, " + n + ")", x -> x.sheet(2, INTS, rows), 1);
            for (int r : Edge.outside(0, n - 1)) {
                OpenGrounds x = new OpenGrounds();
                x.sheet(2, INTS, n);
                due.is("20: of " + n + " no ROW " + r, x.row(2, r, 1), INDEX);
            }
            for (int r = 0; r < n; r++) {
                OpenGrounds x = new OpenGrounds();
                x.sheet(2, INTS, n);
                due.is("20: of " + n + " ROW " + r, x.row(2, r, 1), 1);
            }
        }
        for (int n : new int[] {5, 6, GREATEST}) {
            sheets.refusedSheet("20: sheet(0, 0, " + n + ")", x -> x.sheet(0, BYTES, n), BAD);
            sheets.refusedSheet("20: sheet(2, 1, " + n + ")", x -> x.sheet(2, INTS, n), BAD);
        }
    }

    /** Promise 20: "BAD; SIZE.", by Terms "SIZE (below 0)". */
    private static void sheetBelowZero() {
        for (int n : new int[] {-1, -2, LEAST}) {
            sheets.refusedSheet("20: sheet(0, 0, " + n + ")", x -> x.sheet(0, BYTES, n), SIZE);
            sheets.refusedSheet("20: sheet(2, 1, " + n + ")", x -> x.sheet(2, INTS, n), SIZE);
        }
    }

    /** Promise 20, Terms: "the first one here: BAD", "then FINDINGS.": a wrong SHEET, a wrong SORT ahead of SIZE. */
    private static void sheetBadFirst() {
        for (int n : new int[] {-1, LEAST}) {
            for (int sheet : Edge.outside(0, 2)) {
                sheets.refusedSheet("20: sheet(" + sheet + ", 0, " + n + ")", x -> x.sheet(sheet, BYTES, n), BAD);
            }
            for (int sort : Edge.outside(0, 1)) {
                sheets.refusedSheet("20: sheet(0, " + sort + ", " + n + ")", x -> x.sheet(0, sort, n), BAD);
            }
        }
        sheets.refusedSheet("20: nothing is as told", x -> x.sheet(3, 2, 5), BAD);
    }

    /** Promise 20: "ROWS of a SORT, all MISSING: 1." */
    private static void sheetAllMissing() {
        for (int sort = 0; sort <= 1; sort++) {
            for (int r = 0; r <= 3; r++) {
                OpenGrounds x = new OpenGrounds();
                due.is("20: four", x.sheet(1, sort, 4), 1);
                due.is("20: put in MISSING " + r, x.put(1, sort, r, 0, 0), NULL);
                due.is("20: read MISSING " + r, x.read(1, r) * 100 + x.status(), NULL);
                due.is("20: copy MISSING " + r, x.copy(1, r, 0, 1, r, 0, 0), NULL);
            }
        }
    }

    /**
     * Promise 20: "A SHEET gets n (4 at most) ROWS of a SORT, all MISSING": one that was there already, the others
     * stay.
     */
    private static void sheetAnew() {
        OpenGrounds x = played();
        due.is("20: anew", x.sheet(0, INTS, 1), 1);
        due.is("20: ROW 0 is MISSING", x.put(0, INTS, 0, 0, 0), NULL);
        due.is("20: ROW 1 is gone", x.put(0, INTS, 1, 0, 0), INDEX);
        due.is("20: the SORT is another", x.put(0, BYTES, 0, 0, 0), CAST);
        rowTells("20: the other SHEET", x, 1, 0, 1, 2, 0, 2, 1);
        due.is("20: there is no SHEET 2 still", x.row(2, 0, 0), NULL);
        due.is("20: of no ROWS", x.sheet(1, INTS, 0), 1);
        due.is("20: its ROW 0 is gone", x.put(1, INTS, 0, 0, 0), INDEX);
    }

    // ---- promise 21

    /** Promise 21: "BAD", Terms: "SHEETS (3 at most at 0 .. 2)". */
    private static void rowSheets() {
        for (int sheet : Edge.outside(0, 2)) {
            sheets.refusedSheet("21: row(" + sheet + ", 0, 1)", x -> x.row(sheet, 0, 1), BAD);
            fresh.refusedSheet("21: row(" + sheet + ", 0, 0)", x -> x.row(sheet, 0, 0), BAD);
        }
        for (int sheet = 0; sheet <= 2; sheet++) {
            int number = sheet;
            Edge oneRow = new Edge(due, x -> x.sheet(number, BYTES, 1));
            oneRow.done("21: row(" + sheet + ", 0, 1)", x -> x.row(number, 0, 1), 1);
        }
    }

    /** Promise 21: "NULL", by Terms "NULL (no SHEET". */
    private static void rowNoSheet() {
        sheets.refusedSheet("21: row(2, 0, 1)", x -> x.row(2, 0, 1), NULL);
        for (int sheet = 0; sheet <= 2; sheet++) {
            int number = sheet;
            fresh.refusedSheet("21: row(" + sheet + ", 0, 40)", x -> x.row(number, 0, 40), NULL);
        }
    }

    /** Promise 21: "INDEX", by Terms "INDEX (no such ROW": beside the first and the last, and a SHEET of no ROWS. */
    private static void rowNoRow() {
        for (int r : Edge.outside(0, 3)) {
            sheets.refusedSheet("21: row(0, " + r + ", 1)", x -> x.row(0, r, 1), INDEX);
        }
        for (int r : Edge.outside(0, 1)) {
            sheets.refusedSheet("21: row(1, " + r + ", 1)", x -> x.row(1, r, 1), INDEX);
        }
        for (int r : new int[] {0, 1, -1, LEAST, GREATEST}) {
            ofNoRows.refusedSheet("21: of no ROWS, row(0, " + r + ", 1)", x -> x.row(0, r, 1), INDEX);
        }
        sheets.done("21: the first ROW", x -> x.row(0, 0, 1), 1);
        sheets.done("21: the last ROW", x -> x.row(0, 3, 1), 1);
    }

    /** Promise 21: "A ROW becomes a new one of n (40 at most) numbers: 1. BAD". */
    private static void rowNumbers() {
        for (int n : new int[] {0, 1, 39, 40}) {
            OpenGrounds x = played();
            due.is("21: row(1, 1, " + n + ")", x.row(1, 1, n), 1);
            due.is("21: of " + n + ", the last", x.put(1, INTS, 1, n - 1, 0), n == 0 ? INDEX : 1);
            due.is("21: of " + n + ", one more", x.put(1, INTS, 1, n, 0), INDEX);
        }
        for (int n : new int[] {41, 42, GREATEST}) {
            sheets.refusedSheet("21: row(0, 0, " + n + ")", x -> x.row(0, 0, n), BAD);
            sheets.refusedSheet("21: MISSING, row(1, 1, " + n + ")", x -> x.row(1, 1, n), BAD);
        }
    }

    /**
     * Promise 21: "SIZE (the last of these).", by Terms "SIZE (below 0)": a ROW that is there stays, one that is
     * not neither comes.
     */
    private static void rowBelowZero() {
        for (int n : new int[] {-1, -2, -40, LEAST}) {
            sheets.refusedSheet("21: row(0, 3, " + n + ")", x -> x.row(0, 3, n), SIZE);
            sheets.refusedSheet("21: MISSING, row(1, 1, " + n + ")", x -> x.row(1, 1, n), SIZE);
        }
    }

    /** Promise 21: "BAD; NULL; INDEX; SIZE (the last of these).": where more than one applies. */
    private static void rowOrder() {
        sheets.refusedSheet("21: BAD n ahead of NULL", x -> x.row(2, 0, 41), BAD);
        sheets.refusedSheet("21: BAD n ahead of NULL and INDEX", x -> x.row(2, -1, GREATEST), BAD);
        sheets.refusedSheet("21: BAD n ahead of INDEX", x -> x.row(0, 4, 41), BAD);
        sheets.refusedSheet("21: BAD SHEET ahead of INDEX", x -> x.row(3, 4, 1), BAD);
        sheets.refusedSheet("21: BAD SHEET ahead of SIZE", x -> x.row(-1, 0, -1), BAD);
        sheets.refusedSheet("21: NULL ahead of INDEX", x -> x.row(2, 4, 1), NULL);
        sheets.refusedSheet("21: NULL ahead of SIZE", x -> x.row(2, 0, -1), NULL);
        sheets.refusedSheet("21: NULL ahead of INDEX and SIZE", x -> x.row(2, -1, LEAST), NULL);
        sheets.refusedSheet("21: INDEX ahead of SIZE", x -> x.row(0, 4, -1), INDEX);
        sheets.refusedSheet("21: INDEX -1 ahead of SIZE", x -> x.row(1, -1, LEAST), INDEX);
        ofNoRows.refusedSheet("21: of no ROWS, INDEX ahead of SIZE", x -> x.row(0, 0, -1), INDEX);
    }

    /** Promise 21, Terms: "has up to 40 numbers, 0 at first": a ROW that was there begins anew, the others stay. */
    private static void rowIsNew() {
        OpenGrounds x = played();
        due.is("21: anew", x.row(0, 3, 3), 1);
        rowTells("21: 0 at first", x, 0, 3, 0, 0, 0);
        rowTells("21: the other SHEET stays", x, 1, 0, 1, 2, 0, 2, 1);
        due.is("21: of none", x.row(1, 0, 0), 1);
        rowTells("21: none", x, 1, 0);
        due.is("21: MISSING no more", x.row(0, 2, 1), 1);
        rowTells("21: one", x, 0, 2, 0);
    }

    /** Promises 20 and 21, Terms: "up to 4 ROWS", "has up to 40 numbers, 0 at first": all of them at once. */
    private static void rowsOfForty() {
        OpenGrounds x = new OpenGrounds();
        for (int sheet = 0; sheet <= 2; sheet++) {
            x.sheet(sheet, sheet % 2, 4);
            for (int r = 0; r <= 3; r++) {
                due.is("21: row(" + sheet + ", " + r + ", 40)", x.row(sheet, r, 40), 1);
                due.is("22: its last", x.put(sheet, sheet % 2, r, 39, 2), 1);
            }
        }
        x.ground(5, 5, false);
        for (int sheet = 0; sheet <= 2; sheet++) {
            for (int r = 0; r <= 3; r++) {
                x.kind(0, 1);
                x.kind(39, 1);
                due.is("24: read(" + sheet + ", " + r + ")", x.read(sheet, r), 40);
                due.is("24: the first and the last", x.about(0, 0) * 10 + x.about(39, 0), 2);
            }
        }
    }

    /**
     * Promise 21, "An object is used for at most 512 calls after it has been made": the 512th makes a ROW as the
     * others do.
     */
    private static void rowsFor512Calls() {
        OpenGrounds x = new OpenGrounds();
        x.sheet(0, INTS, 4);
        for (int call = 2; call < 511; call++) {
            x.row(0, call % 4, 40);
        }
        due.is("21: the 511th call", x.row(0, 3, 40), 1);
        due.is("22: the 512th call", x.put(0, INTS, 3, 39, 1), 1);
    }

    // ---- promise 22

    /** Promise 22: "BAD", Terms: "SHEETS (3 at most at 0 .. 2)". */
    private static void putSheets() {
        for (int sheet : Edge.outside(0, 2)) {
            sheets.refusedSheet("22: put(" + sheet + ", 0, 0, 0, 1)", x -> x.put(sheet, BYTES, 0, 0, 1), BAD);
            sheets.refusedSheet("22: put(" + sheet + ", 1, 0, 0, 1)", x -> x.put(sheet, INTS, 0, 0, 1), BAD);
        }
        sheets.done("22: SHEET 0", x -> x.put(0, BYTES, 0, 0, 1), 1);
        sheets.done("22: SHEET 1", x -> x.put(1, INTS, 0, 0, 1), 1);
        ofBytes.done("22: SHEET 2", x -> x.put(2, BYTES, 1, 0, 1), 1);
    }

    /** Promise 22: "taken as of a SORT", Terms: "0 BYTES, 1 INTS": another number is BAD, no CAST. */
    private static void putSorts() {
        for (int sort : Edge.outside(0, 1)) {
            sheets.refusedSheet("22: put(0, " + sort + ", 0, 1, 1)", x -> x.put(0, sort, 0, 1, 1), BAD);
            sheets.refusedSheet("22: put(1, " + sort + ", 0, 1, 1)", x -> x.put(1, sort, 0, 1, 1), BAD);
        }
    }

    /** Promise 22: "NULL (the SHEET)": as of either SORT. */
    private static void putNoSheet() {
        sheets.refusedSheet("22: put(2, 0, 0, 0, 1)", x -> x.put(2, BYTES, 0, 0, 1), NULL);
        sheets.refusedSheet("22: put(2, 1, 0, 0, 1)", x -> x.put(2, INTS, 0, 0, 1), NULL);
    }

    /** Promise 22: "CAST", by Terms "CAST (it is of the other SORT)". */
    private static void putOtherSort() {
        sheets.refusedSheet("22: INTS into BYTES", x -> x.put(0, INTS, 0, 0, 2), CAST);
        sheets.refusedSheet("22: BYTES into INTS", x -> x.put(1, BYTES, 0, 0, 2), CAST);
        ofNoRows.refusedSheet("22: INTS into BYTES of no ROWS", x -> x.put(0, INTS, 0, 0, 2), CAST);
        ofNoRows.refusedSheet("22: BYTES into INTS of no ROWS", x -> x.put(1, BYTES, 0, 0, 2), CAST);
    }

    /** Promise 22: "INDEX (the ROW)": beside the first and the last, and a SHEET of no ROWS. */
    private static void putNoRow() {
        for (int r : Edge.outside(0, 3)) {
            sheets.refusedSheet("22: put(0, 0, " + r + ", 0, 1)", x -> x.put(0, BYTES, r, 0, 1), INDEX);
        }
        for (int r : Edge.outside(0, 1)) {
            sheets.refusedSheet("22: put(1, 1, " + r + ", 0, 1)", x -> x.put(1, INTS, r, 0, 1), INDEX);
        }
        for (int r : new int[] {0, 1, -1, LEAST, GREATEST}) {
            ofNoRows.refusedSheet("22: of no ROWS, " + r, x -> x.put(0, BYTES, r, 0, 1), INDEX);
        }
        sheets.done("22: the first ROW", x -> x.put(0, BYTES, 0, 0, 1), 1);
        sheets.done("22: the last ROW", x -> x.put(0, BYTES, 3, 0, 1), 1);
    }

    /** Promise 22: "NULL (the ROW is MISSING)". */
    private static void putMissing() {
        sheets.refusedSheet("22: put(0, 0, 2, 0, 1)", x -> x.put(0, BYTES, 2, 0, 1), NULL);
        sheets.refusedSheet("22: put(1, 1, 1, 0, 1)", x -> x.put(1, INTS, 1, 0, 1), NULL);
    }

    /** Promise 22: "INDEX (the number).": beside the first and the last, of 40, of three, and a ROW of no numbers. */
    private static void putNoNumber() {
        for (int i : Edge.outside(0, 39)) {
            sheets.refusedSheet("22: put(0, 0, 0, " + i + ", 1)", x -> x.put(0, BYTES, 0, i, 1), INDEX);
        }
        for (int i : Edge.outside(0, 2)) {
            sheets.refusedSheet("22: put(0, 0, 3, " + i + ", 1)", x -> x.put(0, BYTES, 3, i, 1), INDEX);
        }
        for (int i : Edge.outside(0, 4)) {
            sheets.refusedSheet("22: put(1, 1, 0, " + i + ", 1)", x -> x.put(1, INTS, 0, i, 1), INDEX);
        }
        for (int i : new int[] {0, 1, -1, LEAST, GREATEST}) {
            sheets.refusedSheet("22: of no numbers, " + i, x -> x.put(0, BYTES, 1, i, 1), INDEX);
        }
        sheets.done("22: the first number", x -> x.put(0, BYTES, 0, 0, 1), 1);
        sheets.done("22: the last number", x -> x.put(0, BYTES, 0, 39, 1), 1);
    }

    /**
     * Promise 22: "BAD; NULL (the SHEET); CAST; INDEX (the ROW); NULL (the ROW is MISSING); INDEX (the number).":
     * where more than one applies.
     */
    private static void putOrder() {
        sheets.refusedSheet("22: BAD SORT ahead of NULL", x -> x.put(2, 2, 0, 0, 1), BAD);
        sheets.refusedSheet("22: BAD SORT ahead of INDEX", x -> x.put(0, -1, 4, 0, 1), BAD);
        sheets.refusedSheet("22: BAD SORT ahead of a MISSING ROW", x -> x.put(0, 2, 2, 0, 1), BAD);
        sheets.refusedSheet("22: BAD SHEET ahead of all", x -> x.put(3, 1, -1, -1, 1), BAD);
        sheets.refusedSheet("22: NULL ahead of INDEX, as BYTES", x -> x.put(2, BYTES, -1, -1, 1), NULL);
        sheets.refusedSheet("22: NULL ahead of INDEX, as INTS", x -> x.put(2, INTS, 4, 40, 1), NULL);
        sheets.refusedSheet("22: CAST ahead of INDEX, the ROW", x -> x.put(0, INTS, 4, 0, 1), CAST);
        sheets.refusedSheet("22: CAST ahead of NULL, the ROW", x -> x.put(0, INTS, 2, 0, 1), CAST);
        sheets.refusedSheet("22: CAST ahead of INDEX, the number", x -> x.put(0, INTS, 0, 40, 1), CAST);
        sheets.refusedSheet("22: CAST ahead of a ROW of none", x -> x.put(0, INTS, 1, 0, 1), CAST);
        sheets.refusedSheet("22: both INDEX", x -> x.put(0, BYTES, 4, 40, 1), INDEX);
        sheets.refusedSheet("22: NULL ahead of INDEX, the number", x -> x.put(0, BYTES, 2, -1, 1), NULL);
        sheets.refusedSheet("22: NULL ahead of INDEX, the greatest", x -> x.put(1, INTS, 1, GREATEST, 1), NULL);
    }

    /** Promise 22: "A number of a ROW becomes v, as Java casts it": a byte wraps around, upwards and downwards. */
    private static void putBytesWrap() {
        int[] zero = {0, 256, -256, 512, 0x12345600, LEAST};
        int[] one = {1, 257, -255, 0x7fffff01, LEAST + 1};
        int[] two = {2, 258, -254, 0x7fffff02, LEAST + 2};
        int[] none = {3, -1, 255, 127, 128, -128, -129, 259, 253, 254, -253, GREATEST, 0x203};
        bytesAre(zero, 0);
        bytesAre(one, 1);
        bytesAre(two, 2);
        for (int v : none) {
            OpenGrounds x = played();
            due.is("22: put " + v, x.put(0, BYTES, 3, 2, v), 1);
            due.is("24: " + v + " is no KIND", x.read(0, 3), 2);
            due.is("24: " + v + " is told by status()", x.status(), BAD);
        }
    }

    private static void bytesAre(int[] numbers, int want) {
        for (int v : numbers) {
            OpenGrounds x = played();
            due.is("22: put " + v, x.put(0, BYTES, 3, 2, v), 1);
            rowTells("22: " + v + " as a byte", x, 0, 3, 2, 0, want);
        }
    }

    /** Promise 22: "A number of a ROW becomes v, as Java casts it": an int is any int, and does not wrap around. */
    private static void putIntsDoNot() {
        for (int v : new int[] {256, 257, 258, -254, -255, -256, 65536, 65537, LEAST, LEAST + 1, GREATEST, 3, -1}) {
            OpenGrounds x = played();
            due.is("22: put " + v, x.put(1, INTS, 0, 4, v), 1);
            due.is("26: put went well", x.status(), 0);
            due.is("24: " + v + " is no KIND", x.read(1, 0), 4);
            due.is("24: " + v + " is told by status()", x.status(), BAD);
        }
        for (int v = 0; v <= 2; v++) {
            OpenGrounds x = played();
            due.is("22: put " + v, x.put(1, INTS, 0, 4, v), 1);
            rowTells("22: " + v + " as an int", x, 1, 0, 1, 2, 0, 2, v);
        }
    }

    /** Promise 22: "A number of a ROW becomes v": that one and no other, the first, the last. */
    private static void putOneNumber() {
        OpenGrounds x = played();
        due.is("22: the first", x.put(1, INTS, 0, 0, 2), 1);
        rowTells("22: the first", x, 1, 0, 2, 2, 0, 2, 1);
        due.is("22: the last", x.put(1, INTS, 0, 4, 0), 1);
        rowTells("22: the last", x, 1, 0, 2, 2, 0, 2, 0);
        rowTells("22: the other SHEET stays", x, 0, 3, 2, 0, 1);
    }

    // ---- promise 23

    /** Promise 23: "BAD", Terms: "SHEETS (3 at most at 0 .. 2)": the first SHEET, the other one. */
    private static void copySheets() {
        for (int sheet : Edge.outside(0, 2)) {
            sheets.refusedSheet("23: from SHEET " + sheet, x -> x.copy(sheet, 3, 0, 0, 3, 1, 1), BAD);
            sheets.refusedSheet("23: to SHEET " + sheet, x -> x.copy(0, 3, 0, sheet, 3, 1, 1), BAD);
            sheets.refusedSheet("23: from and to SHEET " + sheet, x -> x.copy(sheet, 0, 0, sheet, 0, 0, 0), BAD);
        }
        ofBytes.done("23: from 0 to 2", x -> x.copy(0, 3, 0, 2, 1, 0, 1), 1);
        ofBytes.done("23: from 2 to 0", x -> x.copy(2, 1, 0, 0, 3, 0, 1), 1);
    }

    /** Promise 23: "NULL (the first SHEET, the other one)". */
    private static void copyNoSheet() {
        sheets.refusedSheet("23: the first", x -> x.copy(2, 0, 0, 0, 3, 0, 1), NULL);
        sheets.refusedSheet("23: the other one", x -> x.copy(0, 3, 0, 2, 0, 0, 1), NULL);
        sheets.refusedSheet("23: both, the same", x -> x.copy(2, 0, 0, 2, 0, 0, 0), NULL);
        fresh.refusedSheet("23: both", x -> x.copy(0, 0, 0, 1, 0, 0, 0), NULL);
    }

    /** Promise 23: "CAST (of two SORTS)". */
    private static void copyTwoSorts() {
        sheets.refusedSheet("23: BYTES to INTS", x -> x.copy(0, 3, 0, 1, 0, 0, 1), CAST);
        sheets.refusedSheet("23: INTS to BYTES", x -> x.copy(1, 0, 0, 0, 3, 0, 1), CAST);
        sheets.refusedSheet("23: none of them", x -> x.copy(0, 3, 0, 1, 0, 0, 0), CAST);
        ofNoRows.refusedSheet("23: of no ROWS", x -> x.copy(0, 0, 0, 1, 0, 0, 0), CAST);
    }

    /** Promise 23: "INDEX (the first ROW, the other one)": beside the first and the last, and a SHEET of no ROWS. */
    private static void copyNoRow() {
        for (int r : Edge.outside(0, 3)) {
            sheets.refusedSheet("23: from ROW " + r, x -> x.copy(0, r, 0, 0, 3, 0, 1), INDEX);
            sheets.refusedSheet("23: to ROW " + r, x -> x.copy(0, 3, 0, 0, r, 0, 1), INDEX);
        }
        for (int r : Edge.outside(0, 1)) {
            ofBytes.refusedSheet("23: from SHEET 2, ROW " + r, x -> x.copy(2, r, 0, 0, 0, 0, 0), INDEX);
            ofBytes.refusedSheet("23: to SHEET 2, ROW " + r, x -> x.copy(0, 0, 0, 2, r, 0, 0), INDEX);
        }
        for (int r : new int[] {0, -1, LEAST, GREATEST}) {
            ofNoRows.refusedSheet("23: of no ROWS, " + r, x -> x.copy(0, r, 0, 0, r, 0, 0), INDEX);
        }
    }

    /** Promise 23: "NULL (they are MISSING)": the first, the other one, both. */
    private static void copyMissing() {
        sheets.refusedSheet("23: the first", x -> x.copy(0, 2, 0, 0, 3, 0, 1), NULL);
        sheets.refusedSheet("23: the other one", x -> x.copy(0, 3, 0, 0, 2, 0, 1), NULL);
        sheets.refusedSheet("23: the same", x -> x.copy(0, 2, 0, 0, 2, 0, 0), NULL);
        ofBytes.refusedSheet("23: both", x -> x.copy(0, 2, 0, 2, 0, 0, 0), NULL);
    }

    /** Promise 23: "INDEX: the numbers are not there": the first and the last of them, on either side. */
    private static void copyNotThere() {
        for (int i : Edge.outside(0, 2)) {
            ofBytes.refusedSheet("23: one from " + i, x -> x.copy(0, 3, i, 2, 1, 0, 1), INDEX);
            ofBytes.refusedSheet("23: one to " + i, x -> x.copy(2, 1, 0, 0, 3, i, 1), INDEX);
        }
        for (int i : Edge.outside(0, 39)) {
            sheets.refusedSheet("23: of forty, one from " + i, x -> x.copy(0, 0, i, 0, 3, 0, 1), INDEX);
            sheets.refusedSheet("23: of forty, one to " + i, x -> x.copy(0, 3, 0, 0, 0, i, 1), INDEX);
        }
        sheets.refusedSheet("23: from a ROW of none", x -> x.copy(0, 1, 0, 0, 3, 0, 1), INDEX);
        sheets.refusedSheet("23: to a ROW of none", x -> x.copy(0, 3, 0, 0, 1, 0, 1), INDEX);
        sheets.done("23: the last of forty", x -> x.copy(0, 0, 39, 0, 3, 2, 1), 1);
    }

    /** Promise 23: "INDEX: the numbers are not there, n is below 0." */
    private static void copyBelowZero() {
        for (int n : new int[] {-1, -2, -3, LEAST}) {
            ofBytes.refusedSheet("23: n " + n, x -> x.copy(0, 3, 0, 2, 1, 0, n), INDEX);
            ofBytes.refusedSheet("23: from the end, n " + n, x -> x.copy(0, 3, 3, 2, 1, 4, n), INDEX);
            ofBytes.refusedSheet("23: the same ROW, n " + n, x -> x.copy(2, 1, 2, 2, 1, 2, n), INDEX);
            ofBytes.refusedSheet("23: of none, n " + n, x -> x.copy(0, 1, 0, 0, 1, 0, n), INDEX);
        }
    }

    /**
     * Promise 23: "INDEX: the numbers are not there": one too many for the first ROW, for the other one: not even a
     * part comes.
     */
    private static void copyTooMany() {
        ofBytes.refusedSheet("23: four of three", x -> x.copy(0, 3, 0, 2, 1, 0, 4), INDEX);
        ofBytes.refusedSheet("23: three of the last two", x -> x.copy(0, 3, 1, 2, 1, 0, 3), INDEX);
        ofBytes.refusedSheet("23: four to three", x -> x.copy(2, 1, 0, 0, 3, 0, 4), INDEX);
        ofBytes.refusedSheet("23: three to the last two", x -> x.copy(2, 1, 0, 0, 3, 1, 3), INDEX);
        ofBytes.refusedSheet("23: two to the last one", x -> x.copy(0, 3, 0, 2, 1, 3, 2), INDEX);
        sheets.refusedSheet("23: 41 of forty", x -> x.copy(0, 0, 0, 0, 0, 0, 41), INDEX);
        sheets.refusedSheet("23: 40 of forty from 1 on", x -> x.copy(0, 0, 1, 0, 0, 0, 40), INDEX);
        sheets.refusedSheet("23: 40 to forty from 1 on", x -> x.copy(0, 0, 0, 0, 0, 1, 40), INDEX);
        sheets.refusedSheet("23: as many as an int tells", x -> x.copy(0, 0, 0, 0, 0, 0, GREATEST), INDEX);
    }

    /** Promise 23: "INDEX: the numbers are not there": where the sum of the place and of n is beyond an int. */
    private static void copyWrapsAround() {
        for (int i : new int[] {1, 3, 39, GREATEST}) {
            sheets.refusedSheet("23: greatest from " + i, x -> x.copy(0, 0, i, 0, 0, 0, GREATEST), INDEX);
            sheets.refusedSheet("23: greatest to " + i, x -> x.copy(0, 0, 0, 0, 0, i, GREATEST), INDEX);
        }
        sheets.refusedSheet("23: one from the greatest", x -> x.copy(0, 0, GREATEST, 0, 0, 0, 1), INDEX);
        sheets.refusedSheet("23: one to the greatest", x -> x.copy(0, 0, 0, 0, 0, GREATEST, 1), INDEX);
        sheets.refusedSheet("23: both greatest", x -> x.copy(0, 0, GREATEST, 0, 0, GREATEST, GREATEST), INDEX);
        sheets.refusedSheet("23: all least", x -> x.copy(0, 0, LEAST, 0, 0, LEAST, LEAST), INDEX);
        sheets.refusedSheet("23: from the least, greatest", x -> x.copy(0, 0, LEAST, 0, 0, 0, GREATEST), INDEX);
        sheets.refusedSheet("23: from 1, least", x -> x.copy(0, 0, 1, 0, 0, 1, LEAST), INDEX);
        sheets.refusedSheet("23: none from the greatest", x -> x.copy(0, 0, GREATEST, 0, 0, 0, 0), INDEX);
        sheets.refusedSheet("23: none to the least", x -> x.copy(0, 0, 0, 0, 0, LEAST, 0), INDEX);
    }

    /**
     * Promise 23: "n numbers of a ROW, from i on, come to a ROW": none, up to the end of the ROWS and not beyond
     * it.
     */
    private static void copyNone() {
        ofBytes.ends("23: none from 0", x -> x.copy(0, 3, 0, 2, 1, 0, 0), 0, 0);
        ofBytes.ends("23: none from the end", x -> x.copy(0, 3, 3, 2, 1, 0, 0), 0, 0);
        ofBytes.ends("23: none to the end", x -> x.copy(0, 3, 0, 2, 1, 4, 0), 0, 0);
        ofBytes.ends("23: none from the end of forty", x -> x.copy(0, 0, 40, 2, 1, 4, 0), 0, 0);
        ofBytes.ends("23: none of none", x -> x.copy(0, 1, 0, 0, 1, 0, 0), 0, 0);
        ofBytes.ends("23: none of none to some", x -> x.copy(0, 1, 0, 2, 1, 4, 0), 0, 0);
        ofBytes.refusedSheet("23: none from beyond the end", x -> x.copy(0, 3, 4, 2, 1, 0, 0), INDEX);
        ofBytes.refusedSheet("23: none to beyond the end", x -> x.copy(0, 3, 0, 2, 1, 5, 0), INDEX);
        ofBytes.refusedSheet("23: none from beyond none", x -> x.copy(0, 1, 1, 0, 1, 0, 0), INDEX);
        ofBytes.refusedSheet("23: none to beyond none", x -> x.copy(0, 1, 0, 0, 1, 1, 0), INDEX);
        ofBytes.refusedSheet("23: none from -1", x -> x.copy(0, 3, -1, 2, 1, 0, 0), INDEX);
        ofBytes.refusedSheet("23: none to -1", x -> x.copy(0, 3, 0, 2, 1, -1, 0), INDEX);
    }

    /**
     * Promise 23: "n numbers of a ROW, from i on, come to a ROW of another SHEET (or the same), from j on": all
     * that fit.
     */
    private static void copyAll() {
        OpenGrounds x = new OpenGrounds();
        twoOfBytes(x);
        due.is("23: three, up to both ends", x.copy(0, 3, 0, 2, 1, 1, 3), 3);
        due.is("26: went well", x.status(), 0);
        rowTells("23: they are there", x, 2, 1, 1, 2, 0, 1);
        rowTells("23: the first ROW stays", x, 0, 3, 2, 0, 1);
        OpenGrounds y = new OpenGrounds();
        y.sheet(0, INTS, 1);
        y.sheet(1, INTS, 4);
        y.row(0, 0, 40);
        y.row(1, 3, 40);
        int[] ends = new int[40];
        ends[0] = 2;
        ends[39] = 1;
        y.put(0, INTS, 0, 0, 2);
        y.put(0, INTS, 0, 39, 1);
        due.is("23: forty", y.copy(0, 0, 0, 1, 3, 0, 40), 40);
        rowTells("23: forty are there", y, 1, 3, ends);
    }

    /**
     * Promise 23: "to a ROW of another SHEET (or the same)": from ROW to ROW of one, and what is put later stays
     * apart.
     */
    private static void copyOneSheet() {
        OpenGrounds x = played();
        due.is("23: to the ROW of forty", x.copy(0, 3, 0, 0, 0, 37, 3), 3);
        int[] numbers = new int[40];
        numbers[0] = 1;
        numbers[20] = 2;
        numbers[37] = 2;
        numbers[39] = 1;
        rowTells("23: the ROW of forty", x, 0, 0, numbers);
        x.put(0, BYTES, 3, 0, 0);
        x.ground(5, 5, false);
        x.read(0, 0);
        due.is("23: it keeps what it got", x.about(37, 0), 2);
        due.is("23: onto itself", x.copy(0, 3, 0, 0, 3, 0, 3), 3);
        rowTells("23: onto itself", x, 0, 3, 0, 0, 1);
    }

    /** Promise 23: "from j on, as they were: n.": where the numbers and their new places lie over one another. */
    private static void copyAsTheyWere() {
        OpenGrounds up = played();
        due.is("23: one up", up.copy(1, 0, 0, 1, 0, 1, 4), 4);
        rowTells("23: one up", up, 1, 0, 1, 1, 2, 0, 2);
        OpenGrounds down = played();
        due.is("23: one down", down.copy(1, 0, 1, 1, 0, 0, 4), 4);
        rowTells("23: one down", down, 1, 0, 2, 0, 2, 1, 1);
        OpenGrounds far = played();
        due.is("23: the second to the last", far.copy(1, 0, 1, 1, 0, 4, 1), 1);
        rowTells("23: the second to the last", far, 1, 0, 1, 2, 0, 2, 2);
    }

    /**
     * Promise 23: "BAD; NULL (the first SHEET, the other one); CAST (of two SORTS); INDEX (the first ROW, the other one);
     * NULL (they are MISSING); INDEX: the numbers are not there, n is below 0.": where more than one applies.
     */
    private static void copyOrder() {
        sheets.refusedSheet("23: BAD, the other, ahead of NULL, the first", x -> x.copy(2, 9, 9, 3, 9, 9, -1), BAD);
        sheets.refusedSheet("23: BAD, the first, ahead of NULL, the other", x -> x.copy(-1, 9, 9, 2, 9, 9, -1), BAD);
        sheets.refusedSheet("23: BAD ahead of INDEX", x -> x.copy(0, 4, 0, 3, 0, 0, 0), BAD);
        sheets.refusedSheet("23: NULL, the first, ahead of INDEX, the other ROW", x -> x.copy(2, 0, 0, 0, 4, 0, 0), NULL);
        sheets.refusedSheet("23: NULL, the other, ahead of INDEX, the first ROW", x -> x.copy(0, 4, 0, 2, 0, 0, 0), NULL);
        sheets.refusedSheet("23: NULL, the other, ahead of n below 0", x -> x.copy(0, 3, 0, 2, 0, 0, -1), NULL);
        sheets.refusedSheet("23: CAST ahead of INDEX, the first ROW", x -> x.copy(0, 4, 0, 1, 0, 0, 0), CAST);
        sheets.refusedSheet("23: CAST ahead of INDEX, the other ROW", x -> x.copy(0, 3, 0, 1, 2, 0, 0), CAST);
        sheets.refusedSheet("23: CAST ahead of MISSING", x -> x.copy(0, 2, 0, 1, 1, 0, 0), CAST);
        sheets.refusedSheet("23: CAST ahead of n below 0", x -> x.copy(1, 0, 0, 0, 3, 0, -1), CAST);
        sheets.refusedSheet("23: INDEX, the first ROW, ahead of MISSING", x -> x.copy(0, 4, 0, 0, 2, 0, 0), INDEX);
        sheets.refusedSheet("23: INDEX, the other ROW, ahead of MISSING", x -> x.copy(0, 2, 0, 0, 4, 0, 0), INDEX);
        sheets.refusedSheet("23: the first MISSING ahead of the numbers", x -> x.copy(0, 2, 9, 0, 3, 9, 9), NULL);
        sheets.refusedSheet("23: the other MISSING ahead of the numbers", x -> x.copy(0, 3, 9, 0, 2, 9, 9), NULL);
        sheets.refusedSheet("23: the first MISSING ahead of n below 0", x -> x.copy(0, 2, 0, 0, 3, 0, -1), NULL);
        sheets.refusedSheet("23: the other MISSING ahead of n below 0", x -> x.copy(0, 3, 0, 0, 2, 0, LEAST), NULL);
    }
}
