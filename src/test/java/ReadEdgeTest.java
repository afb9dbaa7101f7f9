import java.util.Arrays;

/** The boundary cases of promises 24 and 26, each test with the sentence of the document that it holds. */
public final class ReadEdgeTest {
    private static final Due due = new Due("ReadEdgeTest");
    private static final int BAD = -1, STATE = -2, FULL = -3, NONE = -9, NULL = -11, INDEX = -12, CAST = -13, SIZE = -15;
    private static final int BYTES = 0, INTS = 1;
    private static final int LEAST = Integer.MIN_VALUE, GREATEST = Integer.MAX_VALUE;

    private static final Edge sheets = new Edge(due, Scenes::roads);
    private static final Edge fresh = new Edge(due, x -> { });

    public static void main(String[] args) {
        readSheets();
        readNoSheet();
        readNoRow();
        readMissing();
        readOrder();
        readNoNumbers();
        readNoThings();
        readEndsWithRow();
        readEndsWithThings();
        readForty();
        readNoKind();
        readNoKindByte();
        readNoKindLast();
        readElder();
        readElderThatIsFreed();
        readBadFirst();
        readThirteenth();
        readThirteenthLate();
        readTwelfthAfterOneLeft();
        readChanceAgain();
        readAnswersNoKind();
        statusAtFirst();
        statusOfTheLatest();
        statusOfOtherCalls();
        due.end();
    }

    /** A GROUND with a SHEET 0 of INTS whose ROW 0 has these numbers. */
    private static OpenGrounds withRow(int rows, int columns, boolean ofPlaces, int... numbers) {
        OpenGrounds x = new OpenGrounds();
        x.ground(rows, columns, ofPlaces);
        x.sheet(0, INTS, 1);
        Scenes.fill(x, 0, INTS, 0, numbers);
        return x;
    }

    private static void reads(String what, OpenGrounds x, int done, int status) {
        due.is("24: " + what, x.read(0, 0), done);
        due.is("24: " + what + ", status()", x.status(), status);
    }

    private static void kindsAre(String what, OpenGrounds x, int... kinds) {
        for (int thing = 0; thing < kinds.length; thing++) {
            due.is("24: " + what + ", THING " + thing, x.about(thing, 0), kinds[thing]);
        }
    }

    private static int[] twos(int n) {
        int[] numbers = new int[n];
        Arrays.fill(numbers, 2);
        return numbers;
    }

    // ---- promise 24: nothing is read

    /** Promise 24: "BAD: the SHEET's number." (Terms: "3 at most at 0 .. 2"). */
    private static void readSheets() {
        for (int sheet : Edge.outside(0, 2)) {
            sheets.refusedSheet("24: read(" + sheet + ", 0)", x -> x.read(sheet, 0), BAD);
            fresh.refusedSheet("24: read(" + sheet + ", 0)", x -> x.read(sheet, 0), BAD);
        }
        for (int sheet = 0; sheet <= 2; sheet++) {
            int number = sheet;
            Edge oneRow = new Edge(due, x -> {
                x.sheet(number, BYTES, 1);
                x.row(number, 0, 1);
            });
            oneRow.done("24: read(" + sheet + ", 0)", x -> x.read(number, 0), 1);
        }
    }

    /** Promise 24: "tells that by status(): NULL", by Terms "NULL (no SHEET": none did. */
    private static void readNoSheet() {
        sheets.ends("24: read(2, 0)", x -> x.read(2, 0), 0, NULL);
        for (int sheet = 0; sheet <= 2; sheet++) {
            int number = sheet;
            fresh.ends("24: read(" + sheet + ", 0)", x -> x.read(number, 0), 0, NULL);
        }
    }

    /**
     * Promise 24: "tells that by status(): NULL, INDEX", by Terms "INDEX (no such ROW": beside the first and the
     * last.
     */
    private static void readNoRow() {
        for (int r : Edge.outside(0, 3)) {
            sheets.ends("24: read(0, " + r + ")", x -> x.read(0, r), 0, INDEX);
        }
        for (int r : Edge.outside(0, 1)) {
            sheets.ends("24: read(1, " + r + ")", x -> x.read(1, r), 0, INDEX);
        }
        Edge ofNoRows = new Edge(due, x -> x.sheet(0, INTS, 0));
        for (int r : new int[] {0, 1, -1, LEAST, GREATEST}) {
            ofNoRows.ends("24: of no ROWS, read(0, " + r + ")", x -> x.read(0, r), 0, INDEX);
        }
    }

    /** Promise 24: "tells that by status(): NULL", by Terms "a ROW that is MISSING": none did. */
    private static void readMissing() {
        sheets.ends("24: read(0, 2)", x -> x.read(0, 2), 0, NULL);
        sheets.ends("24: read(1, 1)", x -> x.read(1, 1), 0, NULL);
        Edge noThings = new Edge(due, x -> {
            x.ground(1, 1, false);
            x.sheet(0, BYTES, 1);
        });
        noThings.ends("24: MISSING, and no THING", x -> x.read(0, 0), 0, NULL);
    }

    /** Promise 24, Terms: "the first one here: BAD", "then FINDINGS.": BAD ahead of INDEX, NULL ahead of INDEX. */
    private static void readOrder() {
        sheets.refusedSheet("24: no such SHEET, no such ROW", x -> x.read(3, 9), BAD);
        sheets.refusedSheet("24: SHEET -1, ROW -1", x -> x.read(-1, -1), BAD);
        sheets.refusedSheet("24: least and least", x -> x.read(LEAST, LEAST), BAD);
        sheets.ends("24: no SHEET, no such ROW", x -> x.read(2, 4), 0, NULL);
        sheets.ends("24: no SHEET, ROW -1", x -> x.read(2, -1), 0, NULL);
    }

    /** Promise 24: "It ends with the ROW": of no numbers, at once. */
    private static void readNoNumbers() {
        sheets.ends("24: read(0, 1)", x -> x.read(0, 1), 0, 0);
    }

    /** Promise 24: "It ends with the ROW, or THINGS": of no THINGS, at once, and no number is looked at. */
    private static void readNoThings() {
        reads("no THING, no KIND", withRow(1, 1, false, 3), 0, 0);
        reads("no THING, forty numbers", withRow(1, 1, false, twos(40)), 0, 0);
        OpenGrounds x = withRow(1, 1, true, 0, 3);
        reads("one THING", x, 1, 0);
        kindsAre("one THING", x, 0);
    }

    // ---- promise 24: how far it comes

    /** Promise 24: "It ends with the ROW": the THINGS behind it stay. */
    private static void readEndsWithRow() {
        OpenGrounds x = withRow(2, 2, false, 0, 2, 0);
        reads("one short", x, 3, 0);
        kindsAre("one short", x, 0, 2, 0, 1);
        OpenGrounds y = withRow(2, 2, false, 0);
        reads("one number", y, 1, 0);
        kindsAre("one number", y, 0, 1, 1, 1);
    }

    /**
     * Promise 24: "It ends with the ROW, or THINGS": as long as the THINGS, one longer, where the one more is no
     * KIND.
     */
    private static void readEndsWithThings() {
        OpenGrounds x = withRow(2, 2, false, 0, 2, 0, 2);
        reads("as long", x, 4, 0);
        kindsAre("as long", x, 0, 2, 0, 2);
        OpenGrounds y = withRow(2, 2, false, 0, 2, 0, 2, 3);
        reads("one longer", y, 4, 0);
        kindsAre("one longer", y, 0, 2, 0, 2);
        OpenGrounds z = withRow(1, 5, true, 0, 1, 2, 1, 0, GREATEST, LEAST);
        reads("two longer", z, 5, 0);
        kindsAre("two longer", z, 0, 1, 2, 1, 0);
    }

    /** Promise 24: "THING by THING from 0 on": forty numbers, forty THINGS, twelve CHANCE ones. */
    private static void readForty() {
        int[] numbers = new int[40];
        for (int i = 28; i < 40; i++) {
            numbers[i] = 2;
        }
        OpenGrounds x = withRow(5, 5, false, numbers);
        reads("forty", x, 40, 0);
        kindsAre("forty", x, numbers);
        due.is("24: twelve", x.told(4), 12);
        OpenGrounds y = withRow(5, 5, true, numbers);
        reads("forty, 25 THINGS", y, 25, 0);
        due.is("24: none", y.told(4), 0);
    }

    /**
     * Promise 24: "or at what is refused (what came ahead stays), and tells that by status(): NULL, INDEX, BAD": no
     * KIND 0 .. 2.
     */
    private static void readNoKind() {
        for (int none : Edge.outside(0, 2)) {
            OpenGrounds x = withRow(2, 2, false, none, 0, 0, 0);
            reads("at once " + none, x, 0, BAD);
            kindsAre("at once " + none, x, 1, 1, 1, 1);
            OpenGrounds y = withRow(2, 2, false, 0, 2, none, 0);
            reads("the third " + none, y, 2, BAD);
            kindsAre("the third " + none, y, 0, 2, 1, 1);
            OpenGrounds z = withRow(2, 2, false, 0, 2, 0, none);
            reads("the last " + none, z, 3, BAD);
            kindsAre("the last " + none, z, 0, 2, 0, 1);
        }
        reads("a TWIN's KIND", withRow(2, 2, false, 3), 0, BAD);
        reads("an AGAINST one's KIND", withRow(2, 2, false, 4), 0, BAD);
    }

    /**
     * Promise 24: "the KINDS that a ROW tells": of BYTES, where 255 is -1 and 256 is 0 (promise 22, "as Java casts
     * it").
     */
    private static void readNoKindByte() {
        OpenGrounds x = new OpenGrounds();
        x.sheet(0, BYTES, 1);
        Scenes.fill(x, 0, BYTES, 0, 256, 258, 257, 255);
        reads("255", x, 3, BAD);
        kindsAre("255", x, 0, 2, 1, 1);
        x.put(0, BYTES, 0, 3, 128);
        reads("128", x, 3, BAD);
        x.put(0, BYTES, 0, 3, 127);
        reads("127", x, 3, BAD);
        x.put(0, BYTES, 0, 3, -256);
        reads("-256", x, 4, 0);
        kindsAre("-256", x, 0, 2, 1, 0);
    }

    /** Promise 24: "or at what is refused (what came ahead stays)": the fortieth of forty. */
    private static void readNoKindLast() {
        int[] numbers = new int[40];
        numbers[39] = 3;
        OpenGrounds x = withRow(5, 5, false, numbers);
        reads("the fortieth", x, 39, BAD);
        due.is("24: what came ahead", x.about(38, 0), 0);
        due.is("24: the fortieth stays", x.about(39, 0), 1);
    }

    /** Promise 24: "as kind()", "BAD, STATE": an ELDER, the first THING, the last; what came ahead stays. */
    private static void readElder() {
        for (int kind = 0; kind <= 1; kind++) {
            OpenGrounds x = withRow(2, 2, false, kind, 0, 0, 0);
            x.kind(0, 2);
            x.twin(3, 0, false);
            reads("the first is an ELDER, " + kind, x, 0, STATE);
            kindsAre("the first is an ELDER", x, 2, 1, 1, 3);
            OpenGrounds y = withRow(2, 2, false, 0, 2, kind, 0);
            y.kind(2, 2);
            y.twin(3, 2, true);
            reads("the third is an ELDER, " + kind, y, 2, STATE);
            kindsAre("the third is an ELDER", y, 0, 2, 2, 4);
            due.is("24: of the same one", y.about(3, 1), 2);
        }
        OpenGrounds z = withRow(2, 2, false, 2, 0, 0, 0);
        z.kind(0, 2);
        z.twin(3, 0, false);
        reads("an ELDER that stays a CHANCE one", z, 4, 0);
        kindsAre("an ELDER that stays a CHANCE one", z, 2, 0, 0, 0);
        due.is("24: the TWIN is none any more", z.about(3, 1), NONE);
    }

    /** Promise 24: "THING by THING from 0 on, as kind()": the TWIN comes first and leaves its ELDER free. */
    private static void readElderThatIsFreed() {
        OpenGrounds x = withRow(2, 2, false, 1, 0, 0, 0);
        x.kind(3, 2);
        x.twin(0, 3, true);
        reads("freed", x, 4, 0);
        kindsAre("freed", x, 1, 0, 0, 0);
        OpenGrounds y = withRow(2, 2, false, 1, 1, 1, 0);
        y.kind(2, 2);
        y.twin(0, 2, true);
        y.twin(3, 2, false);
        reads("freed by one of two", y, 2, STATE);
        kindsAre("freed by one of two", y, 1, 1, 2, 3);
    }

    /**
     * Promise 24, Terms: "the first one here: BAD", then STATE, FULL: an ELDER, or a 13th, that would become of no
     * KIND.
     */
    private static void readBadFirst() {
        OpenGrounds x = withRow(2, 2, false, 3);
        x.kind(0, 2);
        x.twin(1, 0, false);
        reads("an ELDER, KIND 3", x, 0, BAD);
        OpenGrounds y = withRow(4, 4, true, 2, 2, 2, 2, 2, 2, 2, 2, 2, 2, 2, 2, -1);
        reads("after twelve, KIND -1", y, 12, BAD);
        due.is("24: twelve", y.told(4), 12);
    }

    /** Promise 24: "as kind()", "STATE, FULL": a 13th CHANCE one; the twelve ahead stay. */
    private static void readThirteenth() {
        OpenGrounds x = withRow(4, 4, true, twos(13));
        reads("thirteen", x, 12, FULL);
        kindsAre("thirteen", x, 2, 2, 2, 2, 2, 2, 2, 2, 2, 2, 2, 2, 1);
        due.is("24: twelve", x.told(4), 12);
        reads("thirteen once more", x, 12, FULL);
        OpenGrounds y = withRow(4, 4, true, twos(12));
        reads("twelve", y, 12, 0);
        due.is("24: twelve", y.told(4), 12);
        OpenGrounds z = withRow(3, 4, true, twos(13));
        reads("thirteen numbers, twelve THINGS", z, 12, 0);
    }

    /** Promise 24: "as kind()", "FULL": at the first THING, at the last, where the twelve lie elsewhere. */
    private static void readThirteenthLate() {
        OpenGrounds x = withRow(5, 5, false, 2, 0, 0);
        for (int thing = 28; thing < 40; thing++) {
            x.kind(thing, 2);
        }
        reads("at once", x, 0, FULL);
        kindsAre("at once", x, 1, 1, 1);
        int[] numbers = new int[40];
        for (int i = 0; i < 12; i++) {
            numbers[i] = 2;
        }
        numbers[39] = 2;
        OpenGrounds y = withRow(5, 5, false, numbers);
        reads("the fortieth", y, 39, FULL);
        due.is("24: the one ahead", y.about(38, 0), 0);
        due.is("24: the fortieth stays", y.about(39, 0), 1);
    }

    /** Promise 24: "THING by THING from 0 on, as kind()": one of twelve leaves first, and a later one may come. */
    private static void readTwelfthAfterOneLeft() {
        int[] numbers = twos(13);
        numbers[0] = 0;
        OpenGrounds x = withRow(4, 4, true, numbers);
        Scenes.chances(x, 12);
        reads("the first leaves", x, 13, 0);
        due.is("24: twelve", x.told(4), 12);
        due.is("24: the 13th THING", x.about(12, 0) * 100 + x.about(12, 2), 211);
        int[] late = twos(13);
        late[12] = 0;
        OpenGrounds y = withRow(4, 4, true, late);
        for (int thing = 1; thing <= 12; thing++) {
            y.kind(thing, 2);
        }
        reads("the last would leave", y, 0, FULL);
    }

    /** Promise 24: "as kind()": twelve CHANCE ones become CHANCE ones once more, which is no 13th. */
    private static void readChanceAgain() {
        OpenGrounds x = withRow(4, 4, true, twos(12));
        Scenes.chances(x, 12);
        reads("the same twelve", x, 12, 0);
        due.is("24: twelve", x.told(4), 12);
    }

    /** Promise 24: "as kind(): how many did.": what they were does not come into it. */
    private static void readAnswersNoKind() {
        OpenGrounds x = withRow(2, 2, false, 0, 0, 0, 0);
        Scenes.all(x, 0);
        reads("SHUT ones become SHUT", x, 4, 0);
        OpenGrounds y = withRow(2, 2, false, 1, 1, 1, 1);
        y.kind(0, 2);
        y.twin(1, 0, false);
        reads("the ELDER of a later one", y, 0, STATE);
        due.is("24: nothing came to THE TRACE", y.trace(), 0);
    }

    // ---- promise 26

    /** Promise 26: "0.": before any call on SHEETS. */
    private static void statusAtFirst() {
        due.is("26: at first", new OpenGrounds().status(), 0);
        OpenGrounds x = new OpenGrounds();
        x.kind(9, 9);
        due.is("26: after another call that is refused", x.status(), 0);
    }

    /**
     * Promise 26: "What the latest sheet(), row(), put(), copy(), read() was refused by, or ended at; 0.": each
     * follows the one before.
     */
    private static void statusOfTheLatest() {
        OpenGrounds x = new OpenGrounds();
        x.sheet(0, INTS, -1);
        due.is("26: sheet(), SIZE", x.status(), SIZE);
        x.row(0, 0, 1);
        due.is("26: row(), NULL", x.status(), NULL);
        x.sheet(0, INTS, 1);
        due.is("26: sheet(), 0", x.status(), 0);
        x.put(0, BYTES, 0, 0, 1);
        due.is("26: put(), CAST", x.status(), CAST);
        x.row(0, 0, 2);
        due.is("26: row(), 0", x.status(), 0);
        x.put(0, INTS, 0, 2, 1);
        due.is("26: put(), INDEX", x.status(), INDEX);
        x.put(0, INTS, 0, 0, 3);
        due.is("26: put(), 0", x.status(), 0);
        x.read(0, 0);
        due.is("26: read(), BAD", x.status(), BAD);
        x.copy(0, 0, 1, 0, 0, 0, 1);
        due.is("26: copy(), 0", x.status(), 0);
        x.copy(0, 0, 1, 1, 0, 0, 1);
        due.is("26: copy(), NULL", x.status(), NULL);
        x.read(0, 0);
        due.is("26: read(), 0", x.status(), 0);
        due.is("26: once more", x.status(), 0);
    }

    /**
     * Promise 26: "What the latest sheet(), row(), put(), copy(), read() was refused by": no other call changes it,
     * done or refused.
     */
    private static void statusOfOtherCalls() {
        sheets.leaves("26: status()", x -> x.status(), SIZE);
        sheets.leaves("26: trace()", x -> x.trace(), 11111);
        sheets.leaves("26: told()", x -> x.told(0), 3);
        sheets.leaves("26: about()", x -> x.about(0, 0), 1);
        OpenGrounds x = new OpenGrounds();
        x.put(0, BYTES, 0, 0, 0);
        x.ground(0, 0, false);
        x.ground(3, 3, true);
        x.kind(0, 3);
        x.kind(0, 2);
        x.kind(1, 2);
        x.twin(0, 0, false);
        x.twin(2, 0, false);
        x.kind(0, 1);
        x.opens(0, 0);
        x.opens(0, 9);
        x.wall(0, 0);
        x.walls(0, 0);
        x.chance(0, 1, 2);
        x.first(0, 0);
        due.is("26: the put() of long ago", x.status(), NULL);
    }
}
