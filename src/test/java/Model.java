import java.util.ArrayList;
import java.util.List;
import java.util.function.IntPredicate;

/**
 * The document once more, written another way for tests to compare with: kinds are classes one over
 * the other, places hang together by lists, a wall is a walk from gap to gap. Slow and plain.
 */
final class Model {
    static final int BAD = -1, STATE = -2, FULL = -3, NONE = -9, NULL = -11, INDEX = -12, CAST = -13, SIZE = -15;

    /** A call that is refused. */
    private static final class Refused extends RuntimeException {
        private static final long serialVersionUID = 1L;
        final int by;

        Refused(int by) {
            super(null, null, false, false);
            this.by = by;
        }
    }

    private class Shut {
        boolean open(int setting) {
            asks += 1;
            return false;
        }

        int kind() {
            return 0;
        }

        Thing elder() {
            return null;
        }
    }

    private class Sure extends Shut {
        @Override
        boolean open(int setting) {
            asks += 10;
            return !super.open(setting);
        }

        @Override
        int kind() {
            return 1;
        }
    }

    private class Chance extends Sure {
        final Thing of;

        Chance(Thing of) {
            this.of = of;
        }

        @Override
        boolean open(int setting) {
            asks += 100;
            boolean hasWay = (setting >> chanceOnes().indexOf(of)) % 2 != 0;
            return hasWay ? super.open(setting) : !super.open(setting);
        }

        @Override
        int kind() {
            return 2;
        }
    }

    private class Twin extends Chance {
        private final Thing elder;

        Twin(Thing of, Thing elder) {
            super(of);
            this.elder = elder;
        }

        @Override
        boolean open(int setting) {
            asks += 1000;
            return elder.as.open(setting);
        }

        @Override
        int kind() {
            return 3;
        }

        @Override
        Thing elder() {
            return elder;
        }
    }

    private class Against extends Twin {
        Against(Thing of, Thing elder) {
            super(of, elder);
        }

        @Override
        boolean open(int setting) {
            asks += 10000;
            return !super.open(setting);
        }

        @Override
        int kind() {
            return 4;
        }
    }

    private static final class Thing {
        Shut as;
        final int from;
        final int to;

        Thing(int from, int to) {
            this.from = from;
            this.to = to;
        }
    }

    private int rows, columns;
    private boolean ofPlaces;
    private List<Thing> things;
    private List<Thing> roads;
    private final int[][][] sheets = new int[3][][];
    private final int[] sorts = new int[3];
    private long asks = 0, trace = 0;
    private int status = 0;

    Model() {
        lay(2, 2, false);
    }

    private void lay(int newRows, int newColumns, boolean newOfPlaces) {
        rows = newRows;
        columns = newColumns;
        ofPlaces = newOfPlaces;
        roads = new ArrayList<>();
        for (int p = 0; p < rows * columns; p++) {
            if (p % columns != columns - 1) {
                roads.add(new Thing(p, p + 1));
            }
        }
        for (int p = 0; p < (rows - 1) * columns; p++) {
            roads.add(new Thing(p, p + columns));
        }
        List<Thing> places = new ArrayList<>();
        for (int p = 0; p < rows * columns; p++) {
            places.add(new Thing(p, p));
        }
        things = ofPlaces ? places : roads;
        for (Thing thing : things) {
            thing.as = new Sure();
        }
    }

    private List<Thing> chanceOnes() {
        List<Thing> found = new ArrayList<>();
        for (Thing thing : things) {
            if (thing.as.kind() == 2) {
                found.add(thing);
            }
        }
        return found;
    }

    private boolean isElder(Thing thing) {
        return things.stream().anyMatch(other -> other.as.elder() == thing);
    }

    private static void need(boolean holds, int else_) {
        if (!holds) {
            throw new Refused(else_);
        }
    }

    private static void number(int number, int end) {
        need(number >= 0 && number < end, BAD);
    }

    private void setting(int setting) {
        number(setting, (int) Math.round(Math.pow(2, chanceOnes().size())));
    }

    private void size(int k) {
        number(k, chanceOnes().size() + 1);
    }

    // ---- what hangs together

    private boolean[] openThings(int setting) {
        boolean[] open = new boolean[things.size()];
        for (int i = 0; i < open.length; i++) {
            open[i] = things.get(i).as.open(setting);
        }
        return open;
    }

    /** For each place the least one of its heap; NONE where it is not open. */
    private int[] labels(int setting) {
        boolean[] open = openThings(setting);
        int[] label = new int[rows * columns];
        for (int p = 0; p < label.length; p++) {
            label[p] = ofPlaces && !open[p] ? NONE : p;
        }
        for (boolean changed = true; changed; ) {
            changed = false;
            for (int i = 0; i < roads.size(); i++) {
                int a = roads.get(i).from, b = roads.get(i).to;
                boolean joins = ofPlaces ? open[a] && open[b] : open[i];
                if (joins && label[a] != label[b]) {
                    label[a] = label[b] = Math.min(label[a], label[b]);
                    changed = true;
                }
            }
        }
        return label;
    }

    private boolean comes(int setting, int way) {
        if (way == 2) {
            return comes(setting, 0) && comes(setting, 1);
        }
        if (way == 3) {
            return comes(setting, 0) || comes(setting, 1);
        }
        int[] label = labels(setting);
        for (int a = 0; a < label.length; a++) {
            for (int b = 0; b < label.length; b++) {
                boolean ends = way == 0 ? a % columns == 0 && b % columns == columns - 1
                        : a / columns == 0 && b / columns == rows - 1;
                if (ends && label[a] != NONE && label[a] == label[b]) {
                    return true;
                }
            }
        }
        return false;
    }

    private boolean shut(boolean[] open, int from, int to) {
        for (int i = 0; i < roads.size(); i++) {
            if (roads.get(i).from == from && roads.get(i).to == to) {
                return !open[i];
            }
        }
        throw new IllegalStateException("no road " + from + " " + to);
    }

    private int place(int r, int c, int way) {
        return way == 0 ? r * columns + c : c * columns + r;
    }

    /** Whether gap (r, c) leads below; a gap is gone to once. */
    private boolean leads(boolean[] open, boolean[][] been, int r, int c, int way) {
        int high = way == 0 ? rows : columns, wide = way == 0 ? columns : rows;
        if (r < 0 || c < 0 || c > wide - 2 || been[r][c]) {
            return false;
        }
        if (r == high) {
            return true;
        }
        been[r][c] = true;
        if (shut(open, place(r, c, way), place(r, c + 1, way)) && leads(open, been, r + 1, c, way)) {
            return true;
        }
        if (r > 0 && shut(open, place(r - 1, c, way), place(r - 1, c + 1, way)) && leads(open, been, r - 1, c, way)) {
            return true;
        }
        if (r >= 1 && c + 1 <= wide - 2 && shut(open, place(r - 1, c + 1, way), place(r, c + 1, way))
                && leads(open, been, r, c + 1, way)) {
            return true;
        }
        return r >= 1 && c >= 1 && shut(open, place(r - 1, c, way), place(r, c, way)) && leads(open, been, r, c - 1, way);
    }

    private boolean walled(int setting, int way) {
        boolean[] open = openThings(setting);
        for (int c = 0; c <= (way == 0 ? columns : rows) - 2; c++) {
            if (leads(open, new boolean[7][7], 0, c, way)) {
                return true;
            }
        }
        return false;
    }

    private int sizeOf(int[] label, int place) {
        int n = 0;
        for (int other : label) {
            if (label[place] != NONE && other == label[place]) {
                n++;
            }
        }
        return n;
    }

    private int countOf(int k, IntPredicate holds) {
        int n = 0;
        for (int s = 0; s < 1 << chanceOnes().size(); s++) {
            if (Integer.bitCount(s) == k && holds.test(s)) {
                n++;
            }
        }
        return n;
    }

    private static int heapCount(int[] label) {
        int n = 0;
        for (int p = 0; p < label.length; p++) {
            if (label[p] == p) {
                n++;
            }
        }
        return n;
    }

    // ---- one call, by its name

    long call(String name, int... a) {
        boolean ofSheets = List.of("sheet", "row", "put", "copy", "read").contains(name);
        long answer;
        int found = 0;
        try {
            answer = ofSheets ? sheetCall(name, a) : name.equals("status") ? status : groundCall(name, a);
        } catch (Refused refused) {
            answer = refused.by;
            found = refused.by;
        }
        if (ofSheets && !name.equals("read")) {
            status = found;
        }
        return answer;
    }

    private long groundCall(String name, int[] a) {
        switch (name) {
            case "ground":
                number(a[0] - 1, 5);
                number(a[1] - 1, 5);
                lay(a[0], a[1], a[2] == 1);
                return things.size();
            case "kind":
                return become(a[0], a[1]);
            case "twin":
                return twin(a[0], a[1], a[2] == 1);
            case "about":
                return about(a[0], a[1]);
            case "told":
                number(a[0], 6);
                long twins = things.stream().filter(t -> t.as.kind() > 2).count();
                return new long[] {rows, columns, ofPlaces ? 1 : 0, things.size(), chanceOnes().size(), twins}[a[0]];
            case "trace":
                return trace;
            default:
                return a.length == 2 && !List.of("count", "walls", "pivot", "first").contains(name)
                        ? settingCall(name, a) : countCall(name, a);
        }
    }

    private int become(int thing, int kind) {
        number(thing, things.size());
        number(kind, 3);
        Thing it = things.get(thing);
        int was = it.as.kind();
        need(kind == 2 || !isElder(it), STATE);
        need(kind != 2 || was == 2 || chanceOnes().size() < 12, FULL);
        it.as = kind == 0 ? new Shut() : kind == 1 ? new Sure() : new Chance(it);
        return was;
    }

    private int twin(int thing, int elder, boolean against) {
        number(thing, things.size());
        number(elder, things.size());
        Thing it = things.get(thing), old = things.get(elder);
        need(it != old && old.as.kind() == 2, BAD);
        need(!isElder(it), STATE);
        int was = it.as.kind();
        it.as = against ? new Against(it, old) : new Twin(it, old);
        return was;
    }

    private int about(int thing, int what) {
        number(thing, things.size());
        number(what, 5);
        Thing it = things.get(thing);
        int elder = it.as.elder() == null ? NONE : things.indexOf(it.as.elder());
        int number = it.as.kind() == 2 ? chanceOnes().indexOf(it) : NONE;
        return new int[] {it.as.kind(), elder, number, it.from, it.to}[what];
    }

    private long settingCall(String name, int[] a) {
        if (name.equals("opens")) {
            number(a[0], things.size());
            setting(a[1]);
            asks = 0;
            boolean open = things.get(a[0]).as.open(a[1]);
            trace += asks;
            return open ? 1 : 0;
        }
        setting(a[0]);
        number(a[1], name.equals("heap") ? rows * columns : 2);
        need(!name.equals("wall") || !ofPlaces, STATE);
        int[] label = labels(a[0]);
        switch (name) {
            case "through":
                return comes(a[0], a[1]) ? 1 : 0;
            case "wall":
                return walled(a[0], a[1]) ? 1 : 0;
            case "heap":
                return label[a[1]];
            case "heaps":
                int greatest = 0;
                for (int p = 0; p < label.length; p++) {
                    greatest = Math.max(greatest, sizeOf(label, p));
                }
                return a[1] == 0 ? heapCount(label) : greatest;
            default:
                throw new IllegalStateException(name);
        }
    }

    private long countCall(String name, int[] a) {
        switch (name) {
            case "walls":
                need(!ofPlaces, STATE);
                number(a[0], 2);
                size(a[1]);
                return countOf(a[1], s -> walled(s, a[0]));
            case "joined":
                number(a[0], rows * columns);
                number(a[1], rows * columns);
                size(a[2]);
                return countOf(a[2], s -> labels(s)[a[0]] != NONE && labels(s)[a[0]] == labels(s)[a[1]]);
            case "sized":
                number(a[0], rows * columns);
                number(a[1], 26);
                size(a[2]);
                return countOf(a[2], s -> sizeOf(labels(s), a[0]) == a[1]);
            case "heapSum":
                size(a[0]);
                int[] sum = {0};
                countOf(a[0], s -> (sum[0] += heapCount(labels(s))) < 0);
                return sum[0];
            default:
                return wayCall(name, a);
        }
    }

    private long wayCall(String name, int[] a) {
        number(a[0], 4);
        int m = chanceOnes().size();
        switch (name) {
            case "count":
                size(a[1]);
                return countOf(a[1], s -> comes(s, a[0]));
            case "chance":
                number(a[2] - 1, 9);
                number(a[1], a[2] + 1);
                long above = 0;
                for (int s = 0; s < 1 << m; s++) {
                    long weight = comes(s, a[0]) ? 1 : 0;
                    for (int i = 0; i < m; i++) {
                        weight *= (s >> i & 1) == 1 ? a[1] : a[2] - a[1];
                    }
                    above += weight;
                }
                return above;
            case "pivot":
                number(a[1], m);
                int n = 0;
                for (int s = 0; s < 1 << m; s++) {
                    int bit = 1 << a[1];
                    n += (s & bit) != 0 && comes(s, a[0]) && !comes(s - bit, a[0]) ? 1 : 0;
                }
                return n;
            case "first":
                size(a[1]);
                for (int s = 0; s < 1 << m; s++) {
                    if (Integer.bitCount(s) == a[1] && comes(s, a[0])) {
                        return s;
                    }
                }
                return NONE;
            default:
                throw new IllegalStateException(name);
        }
    }

    private long sheetCall(String name, int[] a) {
        switch (name) {
            case "sheet":
                number(a[0], 3);
                number(a[1], 2);
                need(a[2] <= 4, BAD);
                need(a[2] >= 0, SIZE);
                sheets[a[0]] = new int[a[2]][];
                sorts[a[0]] = a[1];
                return 1;
            case "row":
                number(a[0], 3);
                need(a[2] <= 40, BAD);
                need(sheets[a[0]] != null, NULL);
                need(a[1] >= 0 && a[1] < sheets[a[0]].length, INDEX);
                need(a[2] >= 0, SIZE);
                sheets[a[0]][a[1]] = new int[a[2]];
                return 1;
            case "put":
                number(a[0], 3);
                number(a[1], 2);
                need(sheets[a[0]] != null, NULL);
                need(sorts[a[0]] == a[1], CAST);
                need(a[2] >= 0 && a[2] < sheets[a[0]].length, INDEX);
                need(sheets[a[0]][a[2]] != null, NULL);
                need(a[3] >= 0 && a[3] < sheets[a[0]][a[2]].length, INDEX);
                sheets[a[0]][a[2]][a[3]] = a[1] == 0 ? (byte) a[4] : a[4];
                return 1;
            case "copy":
                return copy(a);
            default:
                return read(a[0], a[1]);
        }
    }

    private int copy(int[] a) {
        number(a[0], 3);
        number(a[3], 3);
        int[][] from = sheets[a[0]], into = sheets[a[3]];
        need(from != null && into != null, NULL);
        need(sorts[a[0]] == sorts[a[3]], CAST);
        need(a[1] >= 0 && a[1] < from.length, INDEX);
        need(a[4] >= 0 && a[4] < into.length, INDEX);
        need(from[a[1]] != null && into[a[4]] != null, NULL);
        long n = a[6];
        need(n >= 0 && a[2] >= 0 && a[5] >= 0, INDEX);
        need(a[2] + n <= from[a[1]].length && a[5] + n <= into[a[4]].length, INDEX);
        int[] were = from[a[1]].clone();
        for (int i = 0; i < n; i++) {
            into[a[4]][a[5] + i] = were[a[2] + i];
        }
        return a[6];
    }

    private int read(int sheet, int r) {
        int done = 0;
        status = 0;
        if (sheet < 0 || sheet > 2) {
            status = BAD;
            return BAD;
        }
        try {
            need(sheets[sheet] != null, NULL);
            need(r >= 0 && r < sheets[sheet].length, INDEX);
            need(sheets[sheet][r] != null, NULL);
            while (done < sheets[sheet][r].length && done < things.size()) {
                become(done, sheets[sheet][r][done]);
                done++;
            }
        } catch (Refused refused) {
            status = refused.by;
        }
        return done;
    }
}
