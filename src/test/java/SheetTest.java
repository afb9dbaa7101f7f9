/** Promises 20 to 24 and 26: sheets, what they are refused by, and the kinds read from them. */
public final class SheetTest {
    private static final Due due = new Due("SheetTest");
    private static final int BAD = -1, STATE = -2, FULL = -3, NULL = -11, INDEX = -12, CAST = -13, SIZE = -15;
    private static final int BYTES = 0, INTS = 1;
    private static OpenGrounds x;

    public static void main(String[] args) {
        sheets();
        rows();
        puts();
        putsCast();
        copies();
        copiesOverlap();
        copyRefused();
        reads();
        readEnds();
        readRefused();
        status();
        due.end();
    }

    /** What a sheet call answers is what status() tells of it, or 0. */
    private static void is(String call, int got, int want) {
        due.is(call, got, want);
        due.is("26: after " + call, x.status(), want < 0 ? want : 0);
    }

    /** The numbers of a row of ints or bytes up to 2, told by reading kinds: the class tells them in no other way. */
    private static void rowTells(String what, int sheet, int r, int... kinds) {
        x.ground(5, 5, true);
        due.is(what + ": how many", x.read(sheet, r), kinds.length);
        for (int thing = 0; thing < kinds.length; thing++) {
            due.is(what + ": number " + thing, x.about(thing, 0), kinds[thing]);
        }
    }

    private static void fill(int sheet, int sort, int r, int... numbers) {
        x.row(sheet, r, numbers.length);
        for (int i = 0; i < numbers.length; i++) {
            x.put(sheet, sort, r, i, numbers[i]);
        }
    }

    private static void sheets() {
        x = new OpenGrounds();
        is("20: none of it", x.sheet(0, BYTES, 0), 1);
        is("20: so no row 0", x.row(0, 0, 1), INDEX);
        is("20: four", x.sheet(2, INTS, 4), 1);
        is("20: row 3", x.row(2, 3, 1), 1);
        is("20: no row 4", x.row(2, 4, 1), INDEX);
        is("20: all MISSING", x.put(2, INTS, 0, 0, 0), NULL);
        is("20: anew", x.sheet(2, BYTES, 4), 1);
        is("20: all MISSING again", x.put(2, BYTES, 3, 0, 0), NULL);
        is("20: of the new SORT", x.put(2, INTS, 3, 0, 0), CAST);
        is("20: sheet -1", x.sheet(-1, BYTES, 1), BAD);
        is("20: sheet 3", x.sheet(3, BYTES, 1), BAD);
        is("20: sort -1", x.sheet(0, -1, 1), BAD);
        is("20: sort 2", x.sheet(0, 2, 1), BAD);
        is("20: five", x.sheet(0, BYTES, 5), BAD);
        is("20: very many", x.sheet(0, BYTES, Integer.MAX_VALUE), BAD);
        is("20: below 0", x.sheet(0, BYTES, -1), SIZE);
        is("20: far below 0", x.sheet(0, BYTES, Integer.MIN_VALUE), SIZE);
        is("20: BAD is ahead", x.sheet(3, BYTES, -1), BAD);
        is("20: BAD sort is ahead", x.sheet(0, 2, -1), BAD);
        is("20: nothing changed", x.row(0, 0, 1), INDEX);
        is("20: no SHEET 1 yet", x.row(1, 0, 1), NULL);
        is("20: SIZE", x.sheet(1, BYTES, -1), SIZE);
        is("20: still no SHEET 1", x.row(1, 0, 1), NULL);
    }

    private static void rows() {
        x = new OpenGrounds();
        is("21: no SHEET", x.row(0, 0, 1), NULL);
        is("21: sheet -1", x.row(-1, 0, 1), BAD);
        is("21: sheet 3", x.row(3, 0, 1), BAD);
        is("21: BAD number ahead of NULL", x.row(0, 0, 41), BAD);
        is("21: NULL ahead of INDEX, SIZE", x.row(0, -1, -1), NULL);
        x.sheet(0, INTS, 2);
        is("21: row -1", x.row(0, -1, 1), INDEX);
        is("21: row 2", x.row(0, 2, 1), INDEX);
        is("21: INDEX ahead of SIZE", x.row(0, 2, -1), INDEX);
        is("21: BAD ahead of INDEX", x.row(0, 2, 41), BAD);
        is("21: below 0", x.row(0, 1, -1), SIZE);
        is("21: far below 0", x.row(0, 1, Integer.MIN_VALUE), SIZE);
        is("21: it is MISSING still", x.put(0, INTS, 1, 0, 0), NULL);
        is("21: 40", x.row(0, 1, 40), 1);
        is("21: number 39", x.put(0, INTS, 1, 39, 2), 1);
        is("21: number 40", x.put(0, INTS, 1, 40, 2), INDEX);
        is("21: of none", x.row(0, 0, 0), 1);
        is("21: has no number", x.put(0, INTS, 0, 0, 2), INDEX);
        fill(0, INTS, 0, 2, 2, 1);
        is("21: refused", x.row(0, 0, -3), SIZE);
        rowTells("21: it stays", 0, 0, 2, 2, 1);
        is("21: a new one", x.row(0, 0, 2), 1);
        rowTells("21: 0 at first", 0, 0, 0, 0);
    }

    private static void puts() {
        x = new OpenGrounds();
        is("22: no SHEET", x.put(1, INTS, 0, 0, 0), NULL);
        is("22: no SHEET, of BYTES", x.put(1, BYTES, -1, -1, 0), NULL);
        is("22: sheet -1", x.put(-1, INTS, 0, 0, 0), BAD);
        is("22: sheet 3", x.put(3, INTS, 0, 0, 0), BAD);
        is("22: sort -1", x.put(1, -1, 0, 0, 0), BAD);
        is("22: sort 2", x.put(1, 2, 0, 0, 0), BAD);
        x.sheet(1, INTS, 2);
        is("22: CAST ahead of INDEX", x.put(1, BYTES, 5, 0, 0), CAST);
        is("22: CAST ahead of NULL", x.put(1, BYTES, 0, 0, 0), CAST);
        is("22: row -1", x.put(1, INTS, -1, 0, 0), INDEX);
        is("22: row 2", x.put(1, INTS, 2, 0, 0), INDEX);
        is("22: MISSING", x.put(1, INTS, 1, 99, 0), NULL);
        x.row(1, 1, 3);
        is("22: number -1", x.put(1, INTS, 1, -1, 0), INDEX);
        is("22: number 3", x.put(1, INTS, 1, 3, 0), INDEX);
        is("22: number least", x.put(1, INTS, 1, Integer.MIN_VALUE, 0), INDEX);
        is("22: number greatest", x.put(1, INTS, 1, Integer.MAX_VALUE, 0), INDEX);
        is("22: number 2", x.put(1, INTS, 1, 2, 2), 1);
        is("22: number 0", x.put(1, INTS, 1, 0, 1), 1);
        is("22: CAST of it", x.put(1, BYTES, 1, 0, 2), CAST);
        rowTells("22: as put", 1, 1, 1, 0, 2);
    }

    private static void putsCast() {
        x = new OpenGrounds();
        x.sheet(0, BYTES, 1);
        x.sheet(1, INTS, 1);
        fill(0, BYTES, 0, 256, 257, -254, 0x7fffff02, Integer.MIN_VALUE);
        rowTells("22: as bytes", 0, 0, 0, 1, 2, 2, 0);
        fill(0, BYTES, 0, 1, 255);
        due.is("22: 255 is -1", x.read(0, 0), 1);
        due.is("22: 255 is -1, no KIND", x.status(), BAD);
        int[] great = {256, 257, -254, Integer.MIN_VALUE, Integer.MAX_VALUE};
        for (int number : great) {
            fill(1, INTS, 0, number);
            due.is("22: an int stays " + number, x.read(1, 0), 0);
            due.is("22: and is no KIND", x.status(), BAD);
        }
    }

    private static void copies() {
        x = new OpenGrounds();
        x.sheet(0, BYTES, 2);
        x.sheet(2, BYTES, 1);
        fill(0, BYTES, 0, 1, 2, 1, 0);
        fill(0, BYTES, 1, 0, 0);
        fill(2, BYTES, 0, 2, 2, 2, 2, 2);
        is("23: to another", x.copy(0, 0, 1, 2, 0, 2, 3), 3);
        rowTells("23: another", 2, 0, 2, 2, 2, 1, 0);
        rowTells("23: the first stays", 0, 0, 1, 2, 1, 0);
        is("23: to another row", x.copy(0, 0, 0, 0, 1, 0, 2), 2);
        rowTells("23: another row", 0, 1, 1, 2);
        is("23: none", x.copy(0, 0, 4, 2, 0, 5, 0), 0);
        is("23: all", x.copy(0, 0, 0, 2, 0, 1, 4), 4);
        rowTells("23: all are there", 2, 0, 2, 1, 2, 1, 0);
        x.put(0, BYTES, 0, 0, 2);
        rowTells("23: a copy is another one", 2, 0, 2, 1, 2, 1, 0);
    }

    private static void copiesOverlap() {
        x = new OpenGrounds();
        x.sheet(1, INTS, 1);
        fill(1, INTS, 0, 0, 1, 2, 0, 1);
        is("23: upwards", x.copy(1, 0, 0, 1, 0, 1, 4), 4);
        rowTells("23: as they were, upwards", 1, 0, 0, 0, 1, 2, 0);
        is("23: downwards", x.copy(1, 0, 2, 1, 0, 0, 3), 3);
        rowTells("23: as they were, downwards", 1, 0, 1, 2, 0, 2, 0);
    }

    private static void copyRefused() {
        x = new OpenGrounds();
        is("23: sheet -1", x.copy(-1, 0, 0, 0, 0, 0, 0), BAD);
        is("23: sheet 3", x.copy(3, 0, 0, 0, 0, 0, 0), BAD);
        is("23: other -1", x.copy(0, 0, 0, -1, 0, 0, 0), BAD);
        is("23: other 3", x.copy(0, 0, 0, 3, 0, 0, 0), BAD);
        is("23: no SHEET", x.copy(0, 9, 9, 1, 9, 9, -9), NULL);
        x.sheet(0, BYTES, 2);
        is("23: no other SHEET", x.copy(0, 9, 0, 1, 0, 0, 0), NULL);
        is("23: no first SHEET", x.copy(1, 0, 0, 0, 9, 0, 0), NULL);
        x.sheet(1, INTS, 2);
        is("23: CAST ahead of INDEX", x.copy(0, 9, 0, 1, 9, 0, 0), CAST);
        is("23: CAST the other way", x.copy(1, 0, 0, 0, 0, 0, 0), CAST);
        x.sheet(2, BYTES, 1);
        is("23: first ROW", x.copy(0, 2, 0, 2, 0, 0, 0), INDEX);
        is("23: other ROW", x.copy(0, 0, 0, 2, 1, 0, 0), INDEX);
        is("23: ROW -1", x.copy(0, -1, 0, 2, 0, 0, 0), INDEX);
        is("23: other ROW -1", x.copy(0, 0, 0, 2, -1, 0, 0), INDEX);
        is("23: both MISSING", x.copy(0, 0, 0, 2, 0, 0, -1), NULL);
        fill(0, BYTES, 0, 1, 2, 1);
        is("23: the other MISSING", x.copy(0, 0, 9, 2, 0, 0, 1), NULL);
        is("23: the first MISSING", x.copy(2, 0, 0, 0, 0, 0, 1), NULL);
        fill(2, BYTES, 0, 2, 2);
        is("23: n -1", x.copy(0, 0, 0, 2, 0, 0, -1), INDEX);
        is("23: n least", x.copy(0, 0, 0, 2, 0, 0, Integer.MIN_VALUE), INDEX);
        is("23: n greatest", x.copy(0, 0, 1, 2, 0, 1, Integer.MAX_VALUE), INDEX);
        is("23: from -1", x.copy(0, 0, -1, 2, 0, 0, 1), INDEX);
        is("23: to -1", x.copy(0, 0, 0, 2, 0, -1, 1), INDEX);
        is("23: from beyond", x.copy(0, 0, 3, 2, 0, 0, 1), INDEX);
        is("23: to beyond", x.copy(0, 0, 0, 2, 0, 2, 1), INDEX);
        is("23: too many for the other", x.copy(0, 0, 0, 2, 0, 0, 3), INDEX);
        is("23: too many of the first", x.copy(2, 0, 0, 0, 0, 0, 3), INDEX);
        is("23: none from beyond", x.copy(0, 0, 4, 2, 0, 0, 0), INDEX);
        is("23: none to beyond", x.copy(0, 0, 0, 2, 0, 3, 0), INDEX);
        is("23: greatest and greatest", x.copy(0, 0, Integer.MAX_VALUE, 2, 0, Integer.MAX_VALUE, Integer.MAX_VALUE), INDEX);
        rowTells("23: nothing changed", 2, 0, 2, 2);
    }

    private static void reads() {
        x = new OpenGrounds();
        x.sheet(0, INTS, 1);
        fill(0, INTS, 0, 2, 0, 1, 2);
        is("24: all four", x.read(0, 0), 4);
        due.is("24: kinds", x.about(0, 0) * 1000 + x.about(1, 0) * 100 + x.about(2, 0) * 10 + x.about(3, 0), 2012);
        due.is("24: numbers", x.about(0, 2) * 10 + x.about(3, 2), 1);
        fill(0, INTS, 0, 1);
        is("24: a ROW that is short", x.read(0, 0), 1);
        due.is("24: the others stay", x.about(0, 0) * 1000 + x.about(1, 0) * 100 + x.about(2, 0) * 10 + x.about(3, 0), 1012);
        fill(0, INTS, 0, 0, 0, 0, 0, 77, 77);
        is("24: a ROW that is long ends with the THINGS", x.read(0, 0), 4);
        x.row(0, 0, 0);
        is("24: a ROW of none", x.read(0, 0), 0);
        x.ground(1, 1, false);
        fill(0, INTS, 0, 5);
        is("24: no THINGS", x.read(0, 0), 0);
        x.ground(5, 5, false);
        x.row(0, 0, 40);
        is("24: forty", x.read(0, 0), 40);
        due.is("24: all are SHUT", x.heaps(0, 0), 25);
    }

    private static void endsAt(String what, int done, int ended) {
        due.is("24: " + what, x.read(0, 0), done);
        due.is("24: " + what + ", status", x.status(), ended);
    }

    private static void readEnds() {
        x = new OpenGrounds();
        x.sheet(0, INTS, 1);
        fill(0, INTS, 0, 0, 3, 0, 0);
        endsAt("no KIND that kind() takes", 1, BAD);
        due.is("24: what came ahead stays", x.about(0, 0) * 100 + x.about(1, 0) * 10 + x.about(2, 0), 11);
        fill(0, INTS, 0, -1, 0);
        endsAt("below 0", 0, BAD);
        x.kind(2, 2);
        x.twin(3, 2, false);
        fill(0, INTS, 0, 1, 2, 0, 1);
        endsAt("an ELDER", 2, STATE);
        due.is("24: the ELDER stays", x.about(2, 0) * 10 + x.about(3, 0), 23);
        due.is("24: as far as that", x.about(1, 0), 2);
        fill(0, INTS, 0, 1, 1, 2, 1);
        endsAt("an ELDER that stays CHANCE", 4, 0);
        x.ground(4, 4, true);
        fill(0, INTS, 0, 2, 2, 2, 2, 2, 2, 2, 0, 2, 2, 2, 2, 2, 2);
        endsAt("a 13th CHANCE one", 13, FULL);
        due.is("24: twelve", x.told(4), 12);
        due.is("24: it is SURE still", x.about(13, 0), 1);
        x.put(0, INTS, 0, 13, 1);
        endsAt("now all", 14, 0);
    }

    private static void readRefused() {
        x = new OpenGrounds();
        endsAt("no SHEET", 0, NULL);
        x.sheet(0, BYTES, 1);
        endsAt("MISSING", 0, NULL);
        due.is("24: row 1", x.read(0, 1), 0);
        due.is("24: row 1, status", x.status(), INDEX);
        due.is("24: row -1", x.read(0, -1), 0);
        due.is("24: row -1, status", x.status(), INDEX);
        due.is("24: no SHEET is ahead of INDEX", x.read(1, 7) * 100 + x.status(), NULL);
        is("24: sheet -1", x.read(-1, 0), BAD);
        is("24: sheet 3", x.read(3, 0), BAD);
        is("24: sheet least", x.read(Integer.MIN_VALUE, 0), BAD);
    }

    private static void status() {
        x = new OpenGrounds();
        due.is("26: at first", x.status(), 0);
        x.put(0, BYTES, 0, 0, 0);
        x.kind(0, 9);
        x.kind(0, 2);
        x.twin(0, 0, true);
        x.ground(9, 9, true);
        x.ground(2, 2, true);
        x.wall(0, 0);
        x.count(0, 9);
        x.trace();
        due.is("26: other calls do not change it", x.status(), NULL);
        due.is("26: nor does it", x.status(), NULL);
        x.sheet(0, BYTES, 1);
        due.is("26: sheet() went well", x.status(), 0);
    }
}
