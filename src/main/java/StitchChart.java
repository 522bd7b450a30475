/** A chart for counted stitches; ../shared/DOC.md promises what each call does. */
public final class StitchChart {
    public static final int UNKNOWN = -1;
    public static final int BAD_VALUE = -2;
    public static final int FULL = -3;
    public static final int NONE = -4;

    private static final int MOST_SIDE = 24;
    private static final int COLORS = 6;
    private static final int MOST_ROUNDS = 20;
    private static final int MOST_REACH = 1000;
    private static final int MOST_TAIL = 200;
    private static final int LEAST_PAGE_SIDE = 4;
    private static final int MOST_OVERLAP = 3;

    private final Grid grid;
    private final Yarn yarn;
    private final ColorRuns[] runsByColor;
    private final BackStitches backStitches;
    private final PageLayout layout;
    private final ChartText text;

    public StitchChart() {
        grid = new Grid();
        yarn = new Yarn();
        runsByColor = new ColorRuns[COLORS];
        for (int index = 0; index < COLORS; index++) {
            runsByColor[index] = new ColorRuns(grid, yarn, index + 1);
        }
        backStitches = new BackStitches(grid);
        layout = new PageLayout(grid);
        text = new ChartText();
    }

    public int reset(int width, int height) {
        if (!isWithin(width, 1, MOST_SIDE) || !isWithin(height, 1, MOST_SIDE)) {
            return BAD_VALUE;
        }
        grid.startAnew(width, height);
        backStitches.removeAll();
        return width * height;
    }

    public int type(char character) {
        return text.append(character) ? text.length : FULL;
    }

    public int clearText() {
        int before = text.length;
        text.length = 0;
        return before;
    }

    public int readChart() {
        int fault = text.findFault(grid.width, grid.height);
        return fault == ChartText.NO_FAULT ? text.drawOn(grid) : -100 - fault;
    }

    public int setCell(int x, int y, int color) {
        if (!grid.has(x, y)) {
            return UNKNOWN;
        }
        if (!isWithin(color, 0, COLORS)) {
            return BAD_VALUE;
        }
        int before = grid.colorAt(x, y);
        grid.put(x, y, color);
        return before;
    }

    public int fill(int x, int y, int width, int height, int color) {
        if (!grid.has(x, y)) {
            return UNKNOWN;
        }
        if (!isWithin(width, 1, grid.width - x) || !isWithin(height, 1, grid.height - y)
                || !isWithin(color, 0, COLORS)) {
            return BAD_VALUE;
        }
        int changes = 0;
        for (int down = 0; down < height; down++) {
            changes += grid.putRow(x, y + down, width, color);
        }
        return changes;
    }

    public int cell(int x, int y) {
        return grid.has(x, y) ? grid.colorAt(x, y) : UNKNOWN;
    }

    public int count(int color, int what) {
        if (!isWithin(color, 0, COLORS) || !isWithin(what, 0, 4)) {
            return BAD_VALUE;
        }
        int total = 0;
        for (int each = 1; each <= COLORS; each++) {
            if (color == 0 || color == each) {
                total += countOfColor(each, what);
            }
        }
        return total;
    }

    public int isLone(int x, int y) {
        if (!grid.has(x, y)) {
            return UNKNOWN;
        }
        return grid.standsAlone(x, y) ? 1 : 0;
    }

    public int merge(int rounds) {
        if (!isWithin(rounds, 1, MOST_ROUNDS)) {
            return BAD_VALUE;
        }
        int changes = 0;
        for (int round = 0; round < rounds; round++) {
            int changed = grid.mergeOnce();
            if (changed == 0) {
                break;
            }
            changes += changed;
        }
        return changes;
    }

    public int run(int color, int run, int what) {
        if (!isColor(color)) {
            return BAD_VALUE;
        }
        ColorRuns runs = runsOf(color);
        if (!runs.has(run)) {
            return UNKNOWN;
        }
        switch (what) {
            case 0:
                return runs.xs[run];
            case 1:
                return runs.ys[run];
            case 2:
                return runs.lengths[run];
            case 3:
                return runs.places[run];
            default:
                return BAD_VALUE;
        }
    }

    public int runAt(int color, int place) {
        if (!isColor(color) || place < 0) {
            return BAD_VALUE;
        }
        ColorRuns runs = runsOf(color);
        return runs.has(place) ? runs.order[place] : NONE;
    }

    public int moveRun(int color, int from, int to) {
        if (!isColor(color)) {
            return BAD_VALUE;
        }
        ColorRuns runs = runsOf(color);
        if (!runs.has(from) || !runs.has(to)) {
            return BAD_VALUE;
        }
        runs.relocate(from, to);
        return runs.threadLength();
    }

    public int firstOrder(int color) {
        if (!isColor(color)) {
            return BAD_VALUE;
        }
        ColorRuns runs = runsOf(color);
        runs.makeOrderFirst();
        return runs.threadLength();
    }

    public int shorten(int color) {
        return isColor(color) ? runsOf(color).shortenOrder() : BAD_VALUE;
    }

    public int setThread(int reach, int tail) {
        if (!isWithin(reach, 0, MOST_REACH) || !isWithin(tail, 0, MOST_TAIL)) {
            return BAD_VALUE;
        }
        int before = 1000 * yarn.tail + yarn.reach;
        yarn.reach = reach;
        yarn.tail = tail;
        return before;
    }

    public int setBack(int x, int y, boolean upright, boolean on) {
        return backStitches.hasEdge(x, y, upright) ? backStitches.put(x, y, upright, on) : UNKNOWN;
    }

    public int back(int x, int y, boolean upright) {
        return backStitches.hasEdge(x, y, upright) ? backStitches.stitchesAt(x, y, upright) : UNKNOWN;
    }

    public int outline(int color) {
        return isColor(color) ? backStitches.addOutline(color) : BAD_VALUE;
    }

    public int clearBack() {
        int before = backStitches.edges();
        backStitches.removeAll();
        return before;
    }

    public int backs(int what) {
        switch (what) {
            case 0:
                return backStitches.edges();
            case 1:
                return backStitches.groups();
            case 2:
                return backStitches.strands();
            case 3:
                return 20 * backStitches.edges() + 2 * yarn.tail * backStitches.strands();
            case 4:
                return backStitches.oddPoints();
            default:
                return BAD_VALUE;
        }
    }

    public int setPages(int columns, int lines, int overlap) {
        if (!isWithin(columns, LEAST_PAGE_SIDE, MOST_SIDE) || !isWithin(lines, LEAST_PAGE_SIDE, MOST_SIDE)
                || !isWithin(overlap, 0, MOST_OVERLAP)) {
            return BAD_VALUE;
        }
        layout.columns = columns;
        layout.lines = lines;
        layout.overlap = overlap;
        return layout.total();
    }

    public int page(int page, int what) {
        if (!layout.has(page)) {
            return UNKNOWN;
        }
        switch (what) {
            case 0:
                return layout.left(page);
            case 1:
                return layout.top(page);
            case 2:
                return layout.shownColumns(page);
            case 3:
                return layout.shownLines(page);
            case 4:
                return layout.tally(page, true, 0, COLORS);
            case 5:
                return layout.tally(page, false, 1, COLORS);
            default:
                return BAD_VALUE;
        }
    }

    public int onPage(int page, int color, int what) {
        if (!layout.has(page)) {
            return UNKNOWN;
        }
        if (!isWithin(color, 0, COLORS) || !isWithin(what, 0, 2)) {
            return BAD_VALUE;
        }
        int total = 0;
        for (int each = 1; each <= COLORS; each++) {
            if (color == 0 || color == each) {
                total += countOfColorOnPage(page, each, what);
            }
        }
        return total;
    }

    public int pages() {
        return layout.total();
    }

    public int pageOf(int x, int y) {
        return grid.has(x, y) ? layout.owner(x, y) : UNKNOWN;
    }

    private static boolean isWithin(int value, int least, int most) {
        return value >= least && value <= most;
    }

    private static boolean isColor(int color) {
        return isWithin(color, 1, COLORS);
    }

    /** The first order depends on the cells alone, so runs and order wait until they are asked for. */
    private ColorRuns runsOf(int color) {
        int index = isColor(color) ? color - 1 : 0;
        ColorRuns runs = runsByColor[index];
        if (grid.touched[index + 1]) {
            grid.touched[index + 1] = false;
            runs.findRuns();
            runs.makeOrderFirst();
        }
        return runs;
    }

    private int countOfColor(int color, int what) {
        switch (what) {
            case 0:
                return runsOf(color).stitches();
            case 1:
                return grid.loneStitches(color);
            case 2:
                return runsOf(color).count;
            case 3:
                return runsOf(color).threadLength();
            case 4:
                return runsOf(color).starts();
            default:
                return 0;
        }
    }

    private int countOfColorOnPage(int page, int color, int what) {
        int stitches = layout.tally(page, true, color, color);
        switch (what) {
            case 0:
                return stitches;
            case 1:
                return runsOf(color).runsOnPage(layout, page);
            case 2:
                return Yarn.PER_STITCH * stitches + runsOf(color).startsOnPage(layout, page);
            default:
                return 0;
        }
    }

    /** The cells with their colors. */
    private static final class Grid {
        private static final int CELLS = MOST_SIDE * MOST_SIDE;

        int width = 10;
        int height = 8;
        /** By color: whether a cell got or lost it since its runs were looked up; 0 is not asked for. */
        final boolean[] touched;
        private final int[] colors;
        private final int[] merged;

        Grid() {
            touched = new boolean[COLORS + 1];
            colors = new int[CELLS];
            merged = new int[CELLS];
        }

        void startAnew(int newWidth, int newHeight) {
            width = newWidth;
            height = newHeight;
            for (int index = 0; index < CELLS; index++) {
                colors[index] = 0;
            }
            for (int color = 0; color <= COLORS; color++) {
                touched[color] = true;
            }
        }

        boolean has(int x, int y) {
            return x >= 0 && x < width && y >= 0 && y < height;
        }

        /** Nothing outside of the chart is as good as empty. */
        int colorAt(int x, int y) {
            return has(x, y) ? colors[y * MOST_SIDE + x] : 0;
        }

        /** Answers how many cells change: 0 or 1. */
        int put(int x, int y, int color) {
            int before = colorAt(x, y);
            if (!has(x, y) || !isWithin(color, 0, COLORS) || before == color) {
                return 0;
            }
            colors[y * MOST_SIDE + x] = color;
            touch(before);
            touch(color);
            return 1;
        }

        private void touch(int color) {
            if (isWithin(color, 0, COLORS)) {
                touched[color] = true;
            }
        }

        int putRow(int x, int y, int length, int color) {
            int changes = 0;
            for (int along = 0; along < length; along++) {
                changes += put(x + along, y, color);
            }
            return changes;
        }

        private int neighborsOfColor(int x, int y, int color) {
            int found = 0;
            for (int down = -1; down <= 1; down++) {
                for (int along = -1; along <= 1; along++) {
                    boolean isItself = down == 0 && along == 0;
                    if (!isItself && colorAt(x + along, y + down) == color) {
                        found++;
                    }
                }
            }
            return found;
        }

        boolean standsAlone(int x, int y) {
            int color = colorAt(x, y);
            return color != 0 && neighborsOfColor(x, y, color) == 0;
        }

        int loneStitches(int color) {
            int found = 0;
            for (int y = 0; y < height; y++) {
                for (int x = 0; x < width; x++) {
                    if (colorAt(x, y) == color && standsAlone(x, y)) {
                        found++;
                    }
                }
            }
            return found;
        }

        private int colorAfterMerging(int x, int y) {
            int best = colorAt(x, y);
            if (!standsAlone(x, y)) {
                return best;
            }
            int most = 0;
            for (int color = 1; color <= COLORS; color++) {
                int votes = neighborsOfColor(x, y, color);
                if (votes > most) {
                    most = votes;
                    best = color;
                }
            }
            return best;
        }

        /** All new colors are found before the first is put: a round merges all lone stitches at once. */
        int mergeOnce() {
            for (int y = 0; y < height; y++) {
                for (int x = 0; x < width; x++) {
                    if (has(x, y)) {
                        merged[y * MOST_SIDE + x] = colorAfterMerging(x, y);
                    }
                }
            }
            int changes = 0;
            for (int y = 0; y < height; y++) {
                for (int x = 0; x < width; x++) {
                    if (has(x, y)) {
                        changes += put(x, y, merged[y * MOST_SIDE + x]);
                    }
                }
            }
            return changes;
        }
    }

    /** How far a thread is carried, and what the ways and ends of threads cost. */
    private static final class Yarn {
        static final int PER_STITCH = 48;

        int reach = 60;
        int tail = 30;

        boolean carries(int way) {
            return way <= reach;
        }

        int cost(int way) {
            return carries(way) ? way : 2 * tail;
        }
    }

    /** The runs of one color and their order. */
    private static final class ColorRuns {
        /** Every other cell of each line begins a run at most. */
        private static final int MOST_RUNS = MOST_SIDE * MOST_SIDE / 2;
        /** Each pass but the last saves thread, and there is less than this to save. */
        private static final int MOST_PASSES = 1000000;
        private static final int NOBODY = -1;

        private final Grid grid;
        private final Yarn yarn;
        private final int color;
        int count;
        final int[] xs;
        final int[] ys;
        final int[] lengths;
        /** By place: the run that lies there. */
        final int[] order;
        /** By run: its place in the order. */
        final int[] places;

        ColorRuns(Grid grid, Yarn yarn, int color) {
            this.grid = grid;
            this.yarn = yarn;
            this.color = color;
            xs = new int[MOST_RUNS];
            ys = new int[MOST_RUNS];
            lengths = new int[MOST_RUNS];
            order = new int[MOST_RUNS];
            places = new int[MOST_RUNS];
        }

        /** There are as many places as runs, so this tells of both. */
        boolean has(int run) {
            return run >= 0 && run < count;
        }

        void findRuns() {
            count = 0;
            for (int y = 0; y < grid.height; y++) {
                for (int x = 0; x < grid.width; x++) {
                    if (grid.colorAt(x, y) == color && grid.colorAt(x - 1, y) != color) {
                        addRun(x, y);
                    }
                }
            }
        }

        private void addRun(int x, int y) {
            if (count < 0 || count >= MOST_RUNS) {
                return;
            }
            int length = 1;
            while (length < MOST_SIDE && grid.colorAt(x + length, y) == color) {
                length++;
            }
            xs[count] = x;
            ys[count] = y;
            lengths[count] = length;
            count++;
        }

        void makeOrderFirst() {
            for (int run = 0; run < count; run++) {
                places[run] = NOBODY;
            }
            int run = 0;
            for (int place = 0; place < count; place++) {
                if (place > 0) {
                    run = nearestWithoutPlace(run);
                }
                if (has(run)) {
                    order[place] = run;
                    places[run] = place;
                }
            }
        }

        private int nearestWithoutPlace(int from) {
            int nearest = NOBODY;
            int least = 0;
            for (int run = 0; run < count; run++) {
                if (places[run] == NOBODY) {
                    int way = wayBetween(from, run);
                    if (nearest == NOBODY || way < least) {
                        nearest = run;
                        least = way;
                    }
                }
            }
            return nearest;
        }

        private int wayBetween(int from, int to) {
            if (!has(from) || !has(to)) {
                return 0;
            }
            return 10 * (Math.abs(xs[from] - xs[to]) + Math.abs(ys[from] - ys[to]));
        }

        private int runAtPlace(int place) {
            return has(place) ? order[place] : NOBODY;
        }

        /** Nothing lies before the first and behind the last run, and no way leads there. */
        private int costBetween(int from, int to) {
            return has(from) && has(to) ? yarn.cost(wayBetween(from, to)) : 0;
        }

        int stitches() {
            int sum = 0;
            for (int run = 0; run < count; run++) {
                sum += lengths[run];
            }
            return sum;
        }

        int threadLength() {
            if (count == 0) {
                return 0;
            }
            int thread = 2 * yarn.tail + Yarn.PER_STITCH * stitches();
            for (int place = 1; place < count; place++) {
                thread += costBetween(runAtPlace(place - 1), runAtPlace(place));
            }
            return thread;
        }

        int starts() {
            if (count == 0) {
                return 0;
            }
            int starts = 1;
            for (int place = 1; place < count; place++) {
                if (!yarn.carries(wayBetween(runAtPlace(place - 1), runAtPlace(place)))) {
                    starts++;
                }
            }
            return starts;
        }

        void relocate(int from, int to) {
            if (!has(from) || !has(to)) {
                return;
            }
            int moved = order[from];
            for (int place = from; place < to; place++) {
                lay(runAtPlace(place + 1), place);
            }
            for (int place = from; place > to; place--) {
                lay(runAtPlace(place - 1), place);
            }
            lay(moved, to);
        }

        private void lay(int run, int place) {
            if (has(run) && has(place)) {
                order[place] = run;
                places[run] = place;
            }
        }

        int shortenOrder() {
            int moves = 0;
            for (int pass = 0; pass < MOST_PASSES; pass++) {
                int made = shortenOnce();
                if (made == 0) {
                    break;
                }
                moves += made;
            }
            return moves;
        }

        private int shortenOnce() {
            int moves = 0;
            for (int from = 0; from < count; from++) {
                for (int to = 0; to < count; to++) {
                    if (to != from && savedByMove(from, to) > 0) {
                        relocate(from, to);
                        moves++;
                    }
                }
            }
            return moves;
        }

        /** Only the ways at the gap that the run leaves and at the one that it enters differ. */
        private int savedByMove(int from, int to) {
            int moved = runAtPlace(from);
            int left = runAtPlace(from - 1);
            int right = runAtPlace(from + 1);
            int before = runAtPlace(to > from ? to : to - 1);
            int after = runAtPlace(to > from ? to + 1 : to);
            int old = costBetween(left, moved) + costBetween(moved, right) + costBetween(before, after);
            int now = costBetween(left, right) + costBetween(before, moved) + costBetween(moved, after);
            return old - now;
        }

        int runsOnPage(PageLayout layout, int page) {
            int found = 0;
            for (int run = 0; run < count; run++) {
                if (layout.owner(xs[run], ys[run]) == page) {
                    found++;
                }
            }
            return found;
        }

        /** What starting the runs of the page costs, and the last end if it lies there. */
        int startsOnPage(PageLayout layout, int page) {
            int thread = 0;
            for (int place = 0; place < count; place++) {
                int run = runAtPlace(place);
                if (has(run) && layout.owner(xs[run], ys[run]) == page) {
                    thread += place == 0 ? yarn.tail : costBetween(runAtPlace(place - 1), run);
                    thread += place == count - 1 ? yarn.tail : 0;
                }
            }
            return thread;
        }
    }

    /** The back stitches along the edges of the cells. */
    private static final class BackStitches {
        private static final int POINTS_IN_LINE = MOST_SIDE + 1;
        private static final int POINTS = POINTS_IN_LINE * POINTS_IN_LINE;

        private final Grid grid;
        /** By the upper or left point of the edge. */
        private final boolean[] upright;
        private final boolean[] flat;
        private final boolean[] reached;
        private final int[] waiting;
        private int waitingCount;

        BackStitches(Grid grid) {
            this.grid = grid;
            upright = new boolean[POINTS];
            flat = new boolean[POINTS];
            reached = new boolean[POINTS];
            waiting = new int[POINTS];
        }

        void removeAll() {
            for (int point = 0; point < POINTS; point++) {
                upright[point] = false;
                flat[point] = false;
            }
        }

        boolean hasEdge(int x, int y, boolean isUpright) {
            int mostX = isUpright ? grid.width : grid.width - 1;
            int mostY = isUpright ? grid.height - 1 : grid.height;
            return x >= 0 && x <= mostX && y >= 0 && y <= mostY;
        }

        /** Answers how many back stitches the edge has: 0 or 1. */
        int stitchesAt(int x, int y, boolean isUpright) {
            if (!hasEdge(x, y, isUpright)) {
                return 0;
            }
            int point = y * POINTS_IN_LINE + x;
            return (isUpright ? upright[point] : flat[point]) ? 1 : 0;
        }

        /** Answers how many edges change: 0 or 1. */
        int put(int x, int y, boolean isUpright, boolean on) {
            boolean before = stitchesAt(x, y, isUpright) == 1;
            if (!hasEdge(x, y, isUpright) || before == on) {
                return 0;
            }
            int point = y * POINTS_IN_LINE + x;
            if (isUpright) {
                upright[point] = on;
            } else {
                flat[point] = on;
            }
            return 1;
        }

        int addOutline(int color) {
            int added = 0;
            for (int y = 0; y <= grid.height; y++) {
                for (int x = 0; x <= grid.width; x++) {
                    boolean here = grid.colorAt(x, y) == color;
                    if (here != (grid.colorAt(x - 1, y) == color)) {
                        added += put(x, y, true, true);
                    }
                    if (here != (grid.colorAt(x, y - 1) == color)) {
                        added += put(x, y, false, true);
                    }
                }
            }
            return added;
        }

        int edges() {
            int found = 0;
            for (int y = 0; y <= grid.height; y++) {
                for (int x = 0; x <= grid.width; x++) {
                    found += stitchesAt(x, y, true) + stitchesAt(x, y, false);
                }
            }
            return found;
        }

        private int stitchesAtPoint(int x, int y) {
            return stitchesAt(x, y, true) + stitchesAt(x, y - 1, true)
                    + stitchesAt(x, y, false) + stitchesAt(x - 1, y, false);
        }

        int oddPoints() {
            int found = 0;
            for (int y = 0; y <= grid.height; y++) {
                for (int x = 0; x <= grid.width; x++) {
                    found += stitchesAtPoint(x, y) & 1;
                }
            }
            return found;
        }

        int groups() {
            return sumOverGroups(false);
        }

        int strands() {
            return sumOverGroups(true);
        }

        private int sumOverGroups(boolean ofStrands) {
            for (int point = 0; point < POINTS; point++) {
                reached[point] = false;
            }
            int sum = 0;
            for (int y = 0; y <= grid.height; y++) {
                for (int x = 0; x <= grid.width; x++) {
                    if (stitchesAtPoint(x, y) > 0 && reach(x, y, true)) {
                        int odd = oddPointsOfGroup();
                        sum += ofStrands ? Math.max(1, odd / 2) : 1;
                    }
                }
            }
            return sum;
        }

        /** Answers whether the point is new; it waits then, as the only one if it begins a group. */
        private boolean reach(int x, int y, boolean beginsGroup) {
            if (!isWithin(x, 0, MOST_SIDE) || !isWithin(y, 0, MOST_SIDE)) {
                return false;
            }
            int point = y * POINTS_IN_LINE + x;
            int index = beginsGroup ? 0 : waitingCount;
            if (reached[point] || !isWithin(index, 0, POINTS - 1)) {
                return false;
            }
            reached[point] = true;
            waiting[index] = point;
            waitingCount = index + 1;
            return true;
        }

        private int oddPointsOfGroup() {
            int odd = 0;
            for (int index = 0; index < waitingCount && index < POINTS; index++) {
                int x = waiting[index] % POINTS_IN_LINE;
                int y = waiting[index] / POINTS_IN_LINE;
                odd += stitchesAtPoint(x, y) & 1;
                reachNextPoints(x, y);
            }
            return odd;
        }

        private void reachNextPoints(int x, int y) {
            if (stitchesAt(x, y, true) == 1) {
                reach(x, y + 1, false);
            }
            if (stitchesAt(x, y - 1, true) == 1) {
                reach(x, y - 1, false);
            }
            if (stitchesAt(x, y, false) == 1) {
                reach(x + 1, y, false);
            }
            if (stitchesAt(x - 1, y, false) == 1) {
                reach(x - 1, y, false);
            }
        }
    }

    /** How the chart is cut into pages. */
    private static final class PageLayout {
        private final Grid grid;
        int columns = 8;
        int lines = 6;
        int overlap = 1;

        PageLayout(Grid grid) {
            this.grid = grid;
        }

        private int step(int shown) {
            return shown > overlap ? shown - overlap : 1;
        }

        /** How many pages of so many columns (or lines) it takes to reach the end of the side. */
        private int pagesAlong(int side, int shown) {
            if (side <= shown) {
                return 1;
            }
            int step = step(shown);
            return 1 + (side - shown + step - 1) / step;
        }

        /** At least one, as pages are divided by it. */
        private int pagesAcross() {
            return Math.max(1, pagesAlong(grid.width, columns));
        }

        int total() {
            return pagesAcross() * pagesAlong(grid.height, lines);
        }

        boolean has(int page) {
            return isWithin(page, 0, total() - 1);
        }

        int left(int page) {
            return page % pagesAcross() * step(columns);
        }

        int top(int page) {
            return page / pagesAcross() * step(lines);
        }

        int shownColumns(int page) {
            return Math.min(columns, grid.width - left(page));
        }

        int shownLines(int page) {
            return Math.min(lines, grid.height - top(page));
        }

        /** The first page column (or line) that reaches the place shows it, as pages never leave gaps. */
        private int firstShowing(int at, int shown) {
            return at < shown ? 0 : 1 + (at - shown) / step(shown);
        }

        /** The page to which the cell belongs. */
        int owner(int x, int y) {
            return firstShowing(y, lines) * pagesAcross() + firstShowing(x, columns);
        }

        /** How many cells of the colors the page shows that belong to it, or that only are repeated. */
        int tally(int page, boolean belongs, int leastColor, int mostColor) {
            int left = left(page);
            int top = top(page);
            int right = Math.min(left + columns, grid.width);
            int bottom = Math.min(top + lines, grid.height);
            int found = 0;
            for (int y = top; y < bottom; y++) {
                for (int x = left; x < right; x++) {
                    boolean owned = owner(x, y) == page;
                    if (owned == belongs && isWithin(grid.colorAt(x, y), leastColor, mostColor)) {
                        found++;
                    }
                }
            }
            return found;
        }
    }

    /** The text that tells colors of cells. */
    private static final class ChartText {
        static final int NO_FAULT = -1;
        private static final int MOST_CHARACTERS = 120;
        private static final int DOES_NOT_FIT = 120;
        private static final int MOST_DIGITS = 2;
        private static final int MOST_CELLS = 24;

        private final char[] characters;
        int length;
        /** The number before the character at which a reading is, and how many digits it has. */
        private int number;
        private int digits;

        ChartText() {
            characters = new char[MOST_CHARACTERS];
        }

        boolean append(char character) {
            if (length < 0 || length >= MOST_CHARACTERS) {
                return false;
            }
            characters[length] = character;
            length++;
            return true;
        }

        private char characterAt(int index) {
            return isWithin(index, 0, MOST_CHARACTERS - 1) ? characters[index] : '/';
        }

        private static boolean isDigit(char character) {
            return character >= '0' && character <= '9';
        }

        private static boolean isEntry(char character) {
            return character == '.' || character >= 'a' && character <= 'f';
        }

        private static int colorOf(char character) {
            return character == '.' ? 0 : character - 'a' + 1;
        }

        private void startNumber() {
            number = 0;
            digits = 0;
        }

        private void addDigit(char character) {
            number = 10 * number + (character - '0');
            digits++;
        }

        private int numberOfCells() {
            return digits == 0 ? 1 : number;
        }

        int findFault(int width, int height) {
            int fault = findMisplaced();
            if (fault != NO_FAULT) {
                return fault;
            }
            return fits(width, height) ? NO_FAULT : DOES_NOT_FIT;
        }

        private int findMisplaced() {
            startNumber();
            for (int index = 0; index < length; index++) {
                char character = characterAt(index);
                if (isDigit(character)) {
                    if (digits == MOST_DIGITS) {
                        return index;
                    }
                    addDigit(character);
                } else {
                    if (!isWithin(numberOfCells(), 1, MOST_CELLS)) {
                        return index - digits;
                    }
                    boolean endsLine = character == '/' && digits == 0;
                    if (!endsLine && !isEntry(character)) {
                        return index;
                    }
                    startNumber();
                }
            }
            if (!isWithin(numberOfCells(), 1, MOST_CELLS)) {
                return length - digits;
            }
            return digits == 0 ? NO_FAULT : length;
        }

        private boolean fits(int width, int height) {
            startNumber();
            int x = 0;
            int y = 0;
            for (int index = 0; index < length; index++) {
                char character = characterAt(index);
                if (isDigit(character)) {
                    addDigit(character);
                } else if (character == '/') {
                    x = 0;
                    y++;
                } else {
                    x += numberOfCells();
                    startNumber();
                }
                if (x > width || y >= height) {
                    return false;
                }
            }
            return true;
        }

        /** For a text without fault; answers how many cells change. */
        int drawOn(Grid grid) {
            startNumber();
            int changes = 0;
            int x = 0;
            int y = 0;
            for (int index = 0; index < length; index++) {
                char character = characterAt(index);
                if (isDigit(character)) {
                    addDigit(character);
                } else if (character == '/') {
                    x = 0;
                    y++;
                } else {
                    changes += grid.putRow(x, y, numberOfCells(), colorOf(character));
                    x += numberOfCells();
                    startNumber();
                }
            }
            return changes;
        }
    }
}
