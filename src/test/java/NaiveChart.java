import java.util.ArrayList;
import java.util.Arrays;
import java.util.HashMap;
import java.util.HashSet;
import java.util.List;
import java.util.Map;
import java.util.Set;
import java.util.TreeSet;
import java.util.regex.Matcher;
import java.util.regex.Pattern;

/** The document once more, as plainly as the Java library allows: StitchChart must answer the same. */
final class NaiveChart {
    private static final int UNKNOWN = -1;
    private static final int BAD_VALUE = -2;
    private static final int FULL = -3;
    private static final int NONE = -4;

    private record Cell(int x, int y) {
    }

    private record Run(int x, int y, int length) {
    }

    private record Edge(int x, int y, boolean upright) {
        List<Cell> points() {
            return List.of(new Cell(x, y), upright ? new Cell(x, y + 1) : new Cell(x + 1, y));
        }
    }

    private record Page(int x, int y) {
    }

    private int width = 10;
    private int height = 8;
    private Map<Cell, Integer> stitches = new HashMap<>();
    private int reach = 60;
    private int tail = 30;
    private final List<List<Run>> orders = new ArrayList<>();
    private final Set<Edge> backs = new HashSet<>();
    private int columns = 8;
    private int lines = 6;
    private int overlap = 1;
    private String text = "";

    NaiveChart() {
        for (int color = 0; color <= 6; color++) {
            orders.add(new ArrayList<>());
        }
    }

    private static boolean in(int value, int least, int most) {
        return least <= value && value <= most;
    }

    private boolean exists(int x, int y) {
        return in(x, 0, width - 1) && in(y, 0, height - 1);
    }

    private int at(int x, int y) {
        return stitches.getOrDefault(new Cell(x, y), 0);
    }

    private int put(int x, int y, int color) {
        int old = at(x, y);
        if (old == color) {
            return 0;
        }
        stitches.put(new Cell(x, y), color);
        for (int each : new int[] {old, color}) {
            if (each != 0) {
                orders.set(each, firstOf(each));
            }
        }
        return 1;
    }

    int reset(int newWidth, int newHeight) {
        if (!in(newWidth, 1, 24) || !in(newHeight, 1, 24)) {
            return BAD_VALUE;
        }
        width = newWidth;
        height = newHeight;
        stitches.clear();
        backs.clear();
        orders.replaceAll(order -> new ArrayList<>());
        return width * height;
    }

    int type(char character) {
        if (text.length() == 120) {
            return FULL;
        }
        text += character;
        return text.length();
    }

    int clearText() {
        int before = text.length();
        text = "";
        return before;
    }

    int readChart() {
        int fault = fault();
        if (fault >= 0) {
            return -100 - fault;
        }
        int changes = 0;
        String[] rows = text.split("/", -1);
        for (int y = 0; y < rows.length; y++) {
            String row = spelledOut(rows[y]);
            for (int x = 0; x < row.length(); x++) {
                changes += put(x, y, ".abcdef".indexOf(row.charAt(x)));
            }
        }
        return changes;
    }

    private static String spelledOut(String row) {
        Matcher entry = Pattern.compile("([0-9]*)([a-f.])").matcher(row);
        StringBuilder spelled = new StringBuilder();
        while (entry.find()) {
            spelled.append(entry.group(2).repeat(entry.group(1).isEmpty() ? 1 : Integer.parseInt(entry.group(1))));
        }
        return spelled.toString();
    }

    /** The fault, or -1. */
    private int fault() {
        Matcher good = Pattern.compile("(/|(0?[1-9]|1[0-9]|2[0-4])?[a-f.])*").matcher(text);
        good.lookingAt();
        int end = good.end();
        String rest = text.substring(end);
        if (rest.matches("(?s)[0-9]{3}.*")) {
            return end + 2;
        }
        Matcher number = Pattern.compile("[0-9]{1,2}").matcher(rest);
        if (number.lookingAt()) {
            boolean good24 = in(Integer.parseInt(number.group()), 1, 24);
            return good24 ? end + number.end() : end;
        }
        if (!rest.isEmpty()) {
            return end;
        }
        String[] rows = text.split("/", -1);
        boolean fits = rows.length <= height;
        for (String row : rows) {
            fits &= spelledOut(row).length() <= width;
        }
        return fits ? -1 : 120;
    }

    int setCell(int x, int y, int color) {
        if (!exists(x, y)) {
            return UNKNOWN;
        }
        if (!in(color, 0, 6)) {
            return BAD_VALUE;
        }
        int old = at(x, y);
        put(x, y, color);
        return old;
    }

    int fill(int x, int y, int wide, int high, int color) {
        if (!exists(x, y)) {
            return UNKNOWN;
        }
        if (wide < 1 || high < 1 || !in(color, 0, 6) || (long) x + wide > width || (long) y + high > height) {
            return BAD_VALUE;
        }
        int changes = 0;
        for (int down = y; down < y + high; down++) {
            for (int along = x; along < x + wide; along++) {
                changes += put(along, down, color);
            }
        }
        return changes;
    }

    int cell(int x, int y) {
        return exists(x, y) ? at(x, y) : UNKNOWN;
    }

    private List<Integer> neighborColors(int x, int y) {
        List<Integer> found = new ArrayList<>();
        for (Map.Entry<Cell, Integer> entry : stitches.entrySet()) {
            int away = Math.max(Math.abs(entry.getKey().x() - x), Math.abs(entry.getKey().y() - y));
            if (away == 1 && entry.getValue() != 0) {
                found.add(entry.getValue());
            }
        }
        return found;
    }

    private boolean lone(int x, int y) {
        return at(x, y) != 0 && !neighborColors(x, y).contains(at(x, y));
    }

    private int sum(int color, java.util.function.IntUnaryOperator of) {
        int sum = 0;
        for (int each = color == 0 ? 1 : color; each <= (color == 0 ? 6 : color); each++) {
            sum += of.applyAsInt(each);
        }
        return sum;
    }

    int count(int color, int what) {
        if (!in(color, 0, 6) || !in(what, 0, 4)) {
            return BAD_VALUE;
        }
        return sum(color, each -> countOne(each, what));
    }

    private int countOne(int color, int what) {
        int number = 0;
        for (int y = 0; y < height; y++) {
            for (int x = 0; x < width; x++) {
                if (at(x, y) == color && (what == 0 || what == 1 && lone(x, y))) {
                    number++;
                }
            }
        }
        List<Run> order = orders.get(color);
        switch (what) {
            case 2:
                return runs(color).size();
            case 3:
                return thread(order);
            case 4:
                for (int place = 0; place < order.size(); place++) {
                    number += place == 0 || way(order.get(place - 1), order.get(place)) > reach ? 1 : 0;
                }
                return number;
            default:
                return number;
        }
    }

    int isLone(int x, int y) {
        return !exists(x, y) ? UNKNOWN : lone(x, y) ? 1 : 0;
    }

    int merge(int rounds) {
        if (!in(rounds, 1, 20)) {
            return BAD_VALUE;
        }
        int changes = 0;
        for (int round = 0; round < rounds; round++) {
            Map<Cell, Integer> news = new HashMap<>();
            for (Cell cell : stitches.keySet()) {
                List<Integer> around = neighborColors(cell.x(), cell.y());
                if (lone(cell.x(), cell.y()) && !around.isEmpty()) {
                    int[] votes = new int[7];
                    around.forEach(color -> votes[color]++);
                    int most = Arrays.stream(votes).max().getAsInt();
                    int best = 1;
                    while (votes[best] < most) {
                        best++;
                    }
                    news.put(cell, best);
                }
            }
            news.forEach((cell, color) -> put(cell.x(), cell.y(), color));
            changes += news.size();
        }
        return changes;
    }

    private List<Run> runs(int color) {
        List<Run> runs = new ArrayList<>();
        for (int y = 0; y < height; y++) {
            StringBuilder row = new StringBuilder();
            for (int x = 0; x < width; x++) {
                row.append(at(x, y) == color ? 'x' : ' ');
            }
            Matcher run = Pattern.compile("x+").matcher(row);
            while (run.find()) {
                runs.add(new Run(run.start(), y, run.end() - run.start()));
            }
        }
        return runs;
    }

    private static int way(Run from, Run to) {
        return 10 * (Math.abs(from.x() - to.x()) + Math.abs(from.y() - to.y()));
    }

    private int cost(Run from, Run to) {
        return way(from, to) <= reach ? way(from, to) : 2 * tail;
    }

    private List<Run> firstOf(int color) {
        List<Run> left = runs(color);
        List<Run> order = new ArrayList<>();
        while (!left.isEmpty()) {
            Run next = left.get(0);
            for (Run run : left) {
                if (!order.isEmpty() && way(order.get(order.size() - 1), run) < way(order.get(order.size() - 1), next)) {
                    next = run;
                }
            }
            order.add(next);
            left.remove(next);
        }
        return order;
    }

    private int thread(List<Run> order) {
        int thread = order.isEmpty() ? 0 : 2 * tail;
        for (int place = 0; place < order.size(); place++) {
            thread += 48 * order.get(place).length();
            thread += place == 0 ? 0 : cost(order.get(place - 1), order.get(place));
        }
        return thread;
    }

    int run(int color, int run, int what) {
        if (!in(color, 1, 6)) {
            return BAD_VALUE;
        }
        List<Run> runs = runs(color);
        if (!in(run, 0, runs.size() - 1)) {
            return UNKNOWN;
        }
        Run told = runs.get(run);
        int[] properties = {told.x(), told.y(), told.length(), orders.get(color).indexOf(told)};
        return in(what, 0, 3) ? properties[what] : BAD_VALUE;
    }

    int runAt(int color, int place) {
        if (!in(color, 1, 6) || place < 0) {
            return BAD_VALUE;
        }
        List<Run> order = orders.get(color);
        return place < order.size() ? runs(color).indexOf(order.get(place)) : NONE;
    }

    private static List<Run> moved(List<Run> order, int from, int to) {
        List<Run> moved = new ArrayList<>(order);
        moved.add(to, moved.remove(from));
        return moved;
    }

    int moveRun(int color, int from, int to) {
        if (!in(color, 1, 6)) {
            return BAD_VALUE;
        }
        List<Run> order = orders.get(color);
        if (!in(from, 0, order.size() - 1) || !in(to, 0, order.size() - 1)) {
            return BAD_VALUE;
        }
        orders.set(color, moved(order, from, to));
        return thread(orders.get(color));
    }

    int firstOrder(int color) {
        if (!in(color, 1, 6)) {
            return BAD_VALUE;
        }
        orders.set(color, firstOf(color));
        return thread(orders.get(color));
    }

    int shorten(int color) {
        if (!in(color, 1, 6)) {
            return BAD_VALUE;
        }
        int moves = 0;
        boolean again = true;
        while (again) {
            again = false;
            for (int i = 0; i < orders.get(color).size(); i++) {
                for (int j = 0; j < orders.get(color).size(); j++) {
                    List<Run> other = moved(orders.get(color), i, j);
                    if (thread(other) < thread(orders.get(color))) {
                        orders.set(color, other);
                        moves++;
                        again = true;
                    }
                }
            }
        }
        return moves;
    }

    int setThread(int newReach, int newTail) {
        if (!in(newReach, 0, 1000) || !in(newTail, 0, 200)) {
            return BAD_VALUE;
        }
        int before = 1000 * tail + reach;
        reach = newReach;
        tail = newTail;
        return before;
    }

    /** All edges of the chart: those around each cell. */
    private Set<Edge> edges() {
        Set<Edge> edges = new HashSet<>();
        for (int y = 0; y < height; y++) {
            for (int x = 0; x < width; x++) {
                edges.addAll(List.of(new Edge(x, y, true), new Edge(x + 1, y, true)));
                edges.addAll(List.of(new Edge(x, y, false), new Edge(x, y + 1, false)));
            }
        }
        return edges;
    }

    int setBack(int x, int y, boolean upright, boolean on) {
        Edge edge = new Edge(x, y, upright);
        if (!edges().contains(edge)) {
            return UNKNOWN;
        }
        return (on ? backs.add(edge) : backs.remove(edge)) ? 1 : 0;
    }

    int back(int x, int y, boolean upright) {
        Edge edge = new Edge(x, y, upright);
        return !edges().contains(edge) ? UNKNOWN : backs.contains(edge) ? 1 : 0;
    }

    int outline(int color) {
        if (!in(color, 1, 6)) {
            return BAD_VALUE;
        }
        int before = backs.size();
        for (Edge edge : edges()) {
            int other = edge.upright() ? at(edge.x() - 1, edge.y()) : at(edge.x(), edge.y() - 1);
            int here = at(edge.x(), edge.y());
            if (here != other && (here == color || other == color)) {
                backs.add(edge);
            }
        }
        return backs.size() - before;
    }

    int clearBack() {
        int before = backs.size();
        backs.clear();
        return before;
    }

    int backs(int what) {
        List<Set<Cell>> groups = new ArrayList<>();
        Map<Cell, Integer> degrees = new HashMap<>();
        for (Edge edge : backs) {
            Set<Cell> joined = new HashSet<>(edge.points());
            groups.removeIf(group -> edge.points().stream().anyMatch(group::contains) && joined.addAll(group) | true);
            groups.add(joined);
            edge.points().forEach(point -> degrees.merge(point, 1, Integer::sum));
        }
        int odd = 0;
        int strands = 0;
        for (Set<Cell> group : groups) {
            int own = (int) group.stream().filter(point -> degrees.get(point) % 2 == 1).count();
            odd += own;
            strands += own < 2 ? 1 : own / 2;
        }
        int[] numbers = {backs.size(), groups.size(), strands, 20 * backs.size() + 2 * tail * strands, odd};
        return in(what, 0, 4) ? numbers[what] : BAD_VALUE;
    }

    private List<Integer> begins(int side, int shown) {
        List<Integer> begins = new ArrayList<>(List.of(0));
        while (begins.get(begins.size() - 1) + shown < side) {
            begins.add(begins.get(begins.size() - 1) + shown - overlap);
        }
        return begins;
    }

    private List<Page> layout() {
        List<Page> pages = new ArrayList<>();
        for (int y : begins(height, lines)) {
            for (int x : begins(width, columns)) {
                pages.add(new Page(x, y));
            }
        }
        return pages;
    }

    int setPages(int newColumns, int newLines, int newOverlap) {
        if (!in(newColumns, 4, 24) || !in(newLines, 4, 24) || !in(newOverlap, 0, 3)) {
            return BAD_VALUE;
        }
        columns = newColumns;
        lines = newLines;
        overlap = newOverlap;
        return pages();
    }

    private boolean shows(Page page, int x, int y) {
        return in(x, page.x(), page.x() + columns - 1) && in(y, page.y(), page.y() + lines - 1);
    }

    int page(int page, int what) {
        if (!in(page, 0, pages() - 1)) {
            return UNKNOWN;
        }
        Page told = layout().get(page);
        Set<Integer> xs = new TreeSet<>();
        Set<Integer> ys = new TreeSet<>();
        int own = 0;
        int repeated = 0;
        for (int y = 0; y < height; y++) {
            for (int x = 0; x < width; x++) {
                if (shows(told, x, y)) {
                    xs.add(x);
                    ys.add(y);
                    own += pageOf(x, y) == page ? 1 : 0;
                    repeated += pageOf(x, y) != page && at(x, y) != 0 ? 1 : 0;
                }
            }
        }
        int[] properties = {told.x(), told.y(), xs.size(), ys.size(), own, repeated};
        return in(what, 0, 5) ? properties[what] : BAD_VALUE;
    }

    int onPage(int page, int color, int what) {
        if (!in(page, 0, pages() - 1)) {
            return UNKNOWN;
        }
        if (!in(color, 0, 6) || !in(what, 0, 2)) {
            return BAD_VALUE;
        }
        return sum(color, each -> onPageOne(page, each, what));
    }

    private int onPageOne(int page, int color, int what) {
        int own = 0;
        for (int y = 0; y < height; y++) {
            for (int x = 0; x < width; x++) {
                own += at(x, y) == color && pageOf(x, y) == page ? 1 : 0;
            }
        }
        int ownRuns = 0;
        int thread = 48 * own;
        Run before = null;
        for (Run run : orders.get(color)) {
            if (pageOf(run.x(), run.y()) == page) {
                ownRuns++;
                thread += before == null ? tail : cost(before, run);
            }
            before = run;
        }
        if (before != null && pageOf(before.x(), before.y()) == page) {
            thread += tail;
        }
        return new int[] {own, ownRuns, thread}[what];
    }

    int pages() {
        return layout().size();
    }

    int pageOf(int x, int y) {
        if (!exists(x, y)) {
            return UNKNOWN;
        }
        List<Page> pages = layout();
        int page = 0;
        while (!shows(pages.get(page), x, y)) {
            page++;
        }
        return page;
    }
}
