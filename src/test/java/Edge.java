import java.util.ArrayList;
import java.util.List;
import java.util.function.Consumer;
import java.util.function.Function;
import java.util.function.ToLongFunction;

/**
 * One call in one scene. A scene is a run of calls that can be played on as many new objects as one
 * likes: so an object with the call and one without it are asked the same about the ground, settings, counts
 * and sheets, each view on objects of its own, for asking changes them and an object is good for 512 calls.
 */
final class Edge {
    private static final int BAD = -1, CAST = -13, SIZE = -15;
    private static final int BYTES = 0, INTS = 1;

    private final Due due;
    private final Consumer<OpenGrounds> scene;

    Edge(Due due, Consumer<OpenGrounds> scene) {
        this.due = due;
        this.scene = scene;
    }

    /** The numbers beside a range, and the two that are the farthest from it. */
    static int[] outside(int least, int most) {
        return new int[] {least - 1, most + 1, Integer.MIN_VALUE, Integer.MAX_VALUE};
    }

    /** A call that status() does not tell of is refused: nothing changes, status() neither. */
    void refused(String call, ToLongFunction<OpenGrounds> asked, long answer) {
        leaves(call, asked, answer);
    }

    /** A call that status() does not tell of answers so, and nothing changes. */
    void leaves(String call, ToLongFunction<OpenGrounds> asked, long answer) {
        OpenGrounds x = played(SIZE);
        due.is(call, asked.applyAsLong(x), answer);
        due.is(call + ", status() as it was", x.status(), SIZE);
        changesNothing(call, asked);
    }

    /** A call on sheets is refused: status() tells by what, and nothing else changes. */
    void refusedSheet(String call, ToLongFunction<OpenGrounds> asked, int answer) {
        ends(call, asked, answer, answer);
    }

    /** A call on sheets answers so, changes nothing, and status() tells so afterwards. */
    void ends(String call, ToLongFunction<OpenGrounds> asked, int answer, int status) {
        OpenGrounds x = played(otherThan(status));
        due.is(call, asked.applyAsLong(x), answer);
        due.is(call + ", status()", x.status(), status);
        changesNothing(call, asked);
    }

    /** A call on sheets that is not refused: status() tells 0 whatever it told before. */
    void done(String call, ToLongFunction<OpenGrounds> asked, int answer) {
        OpenGrounds x = played(BAD);
        due.is(call, asked.applyAsLong(x), answer);
        due.is(call + ", status()", x.status(), 0);
    }

    private static int otherThan(int status) {
        return status == BAD ? SIZE : BAD;
    }

    private OpenGrounds played(int status) {
        OpenGrounds x = new OpenGrounds();
        scene.accept(x);
        due.is("a sheet() that is refused", status == BAD ? x.sheet(3, BYTES, 0) : x.sheet(0, BYTES, -1), status);
        due.is("its status()", x.status(), status);
        return x;
    }

    private void changesNothing(String call, ToLongFunction<OpenGrounds> asked) {
        same(call, "the ground", asked, Edge::ground);
        same(call, "what opens", asked, Edge::openings);
        same(call, "what hangs together", asked, Edge::settings);
        same(call, "the counts", asked, Edge::counts);
        for (int sheet = 0; sheet < 3; sheet++) {
            int number = sheet;
            same(call, "sheet " + sheet, asked, x -> sheet(x, number));
        }
    }

    private void same(String call, String what, ToLongFunction<OpenGrounds> asked,
            Function<OpenGrounds, List<Long>> view) {
        OpenGrounds with = new OpenGrounds();
        scene.accept(with);
        asked.applyAsLong(with);
        OpenGrounds without = new OpenGrounds();
        scene.accept(without);
        due.holds(call + " leaves " + what, view.apply(with).equals(view.apply(without)));
    }

    private static List<Long> ground(OpenGrounds x) {
        List<Long> seen = new ArrayList<>();
        seen.add(x.trace());
        for (int what = 0; what <= 5; what++) {
            seen.add((long) x.told(what));
        }
        int things = x.told(3);
        for (int thing = 0; thing < things; thing++) {
            for (int what = 0; what <= 4; what++) {
                seen.add((long) x.about(thing, what));
            }
        }
        return seen;
    }

    private static List<Long> openings(OpenGrounds x) {
        List<Long> seen = new ArrayList<>();
        int things = x.told(3), last = (1 << x.told(4)) - 1;
        for (int thing = 0; thing < things; thing++) {
            for (int setting : new int[] {0, last, last / 3}) {
                seen.add((long) x.opens(thing, setting));
            }
        }
        seen.add(x.trace());
        return seen;
    }

    private static List<Long> settings(OpenGrounds x) {
        List<Long> seen = new ArrayList<>();
        int places = x.told(0) * x.told(1), last = (1 << x.told(4)) - 1;
        for (int setting : new int[] {0, last, last / 3}) {
            for (int two = 0; two < 2; two++) {
                seen.add((long) x.through(setting, two));
                seen.add((long) x.wall(setting, two));
                seen.add((long) x.heaps(setting, two));
            }
            for (int place = 0; place < places; place++) {
                seen.add((long) x.heap(setting, place));
            }
        }
        return seen;
    }

    private static List<Long> counts(OpenGrounds x) {
        List<Long> seen = new ArrayList<>();
        int m = x.told(4);
        for (int k = 0; k <= m; k++) {
            seen.add((long) x.count(0, k));
            seen.add((long) x.count(1, k));
            seen.add((long) x.walls(0, k));
            seen.add((long) x.walls(1, k));
            seen.add((long) x.heapSum(k));
        }
        return seen;
    }

    /**
     * All that can be told of a sheet: for a number that is no kind, or one chance one too many, 1 is put in
     * its place and the row is read again.
     */
    private static List<Long> sheet(OpenGrounds x, int sheet) {
        List<Long> seen = new ArrayList<>();
        for (int r = 0; r <= 4; r++) {
            int asBytes = x.put(sheet, BYTES, r, 40, 0);
            int asInts = x.put(sheet, INTS, r, 40, 0);
            seen.add((long) asBytes);
            seen.add((long) asInts);
            row(x, sheet, r, asBytes == CAST ? INTS : BYTES, seen);
        }
        return seen;
    }

    private static void row(OpenGrounds x, int sheet, int r, int sort, List<Long> seen) {
        x.ground(5, 5, false);
        for (int tries = 0; tries <= 5; tries++) {
            int length = x.read(sheet, r);
            int ended = x.status();
            seen.add((long) length);
            seen.add((long) ended);
            if (ended == 0 || x.put(sheet, sort, r, length, 1) != 1) {
                break;
            }
        }
        for (int thing = 0; thing < 40; thing++) {
            seen.add((long) x.about(thing, 0));
        }
    }
}
