/** Long runs of mixed calls must get the answers of NaiveChart. The calls are the same each time. */
public final class ModelTest {
    private static final int RUNS = 200;
    /** What later calls answer is free. */
    private static final int MOST_CALLS = 512;
    /** Typing a text and reading it takes the most. */
    private static final int MOST_CALLS_AT_ONCE = 18;

    private long seed;
    private final StitchChart chart = new StitchChart();
    private final NaiveChart naive = new NaiveChart();
    private int width = 10;
    private int height = 8;
    private int colors;
    private int calls;

    private ModelTest(long seed) {
        this.seed = seed;
        this.colors = 1 + (int) (seed % 6);
    }

    public static void main(String[] args) {
        for (int run = 0; run < RUNS; run++) {
            ModelTest test = new ModelTest(run);
            while (test.calls <= MOST_CALLS - MOST_CALLS_AT_ONCE) {
                test.callOnce("run " + run + ", call " + (test.calls + 1) + " or later: ");
            }
        }
        Due.end();
    }

    private void due(String call, int got, int want) {
        calls++;
        Due.be(call, got, want);
    }

    /** A number below the bound; no random source, so that each failure comes again. */
    private int below(int bound) {
        seed = seed * 6364136223846793005L + 1442695040888963407L;
        return (int) ((seed >>> 33) % bound);
    }

    private int between(int least, int most) {
        return least + below(most - least + 1);
    }

    /** Mostly within the range, sometimes just or far outside. */
    private int about(int least, int most) {
        int kind = below(40);
        if (kind == 0) {
            return below(2) == 0 ? least - 1 : most + 1;
        }
        if (kind == 1) {
            return below(2) == 0 ? Integer.MIN_VALUE : Integer.MAX_VALUE;
        }
        return between(least, most);
    }

    private int color() {
        return below(4) == 0 ? about(0, 6) : between(0, colors);
    }

    private int x() {
        return about(0, width - 1);
    }

    private int y() {
        return about(0, height - 1);
    }

    private void callOnce(String when) {
        switch (below(5)) {
            case 0:
                changeChart(when);
                break;
            case 1:
                changeOther(when);
                break;
            case 2:
                askCells(when);
                break;
            case 3:
                askOrders(when);
                break;
            default:
                askPagesAndBacks(when);
                break;
        }
    }

    private void changeChart(String when) {
        int x = x();
        int y = y();
        int color = color();
        switch (below(16)) {
            case 0:
                if (below(8) == 0) {
                    reset(when, about(1, 24), about(1, 24));
                }
                break;
            case 1:
                int rounds = about(1, 20);
                due(when + "merge(" + rounds + ")", chart.merge(rounds), naive.merge(rounds));
                break;
            case 2:
            case 3:
                readText(when);
                break;
            case 4:
            case 5:
            case 6:
                int wide = about(1, 5);
                int high = about(1, 3);
                due(when + "fill(" + x + ", " + y + ", " + wide + ", " + high + ", " + color + ")",
                        chart.fill(x, y, wide, high, color), naive.fill(x, y, wide, high, color));
                break;
            default:
                due(when + "setCell(" + x + ", " + y + ", " + color + ")",
                        chart.setCell(x, y, color), naive.setCell(x, y, color));
                break;
        }
    }

    private void reset(String when, int newWidth, int newHeight) {
        int cells = naive.reset(newWidth, newHeight);
        due(when + "reset(" + newWidth + ", " + newHeight + ")", chart.reset(newWidth, newHeight), cells);
        if (cells > 0) {
            width = newWidth;
            height = newHeight;
        }
    }

    private void readText(String when) {
        if (below(3) > 0) {
            due(when + "clearText()", chart.clearText(), naive.clearText());
        }
        String signs = below(3) == 0 ? "0123456789abcdef./g" : "12ab.cd/f";
        int length = between(0, 16);
        for (int typed = 0; typed < length; typed++) {
            char sign = below(60) == 0 ? (char) below(65536) : signs.charAt(below(signs.length()));
            due(when + "type", chart.type(sign), naive.type(sign));
        }
        due(when + "readChart()", chart.readChart(), naive.readChart());
    }

    private void changeOther(String when) {
        int color = color();
        int from = about(0, 8);
        int to = about(0, 8);
        boolean upright = below(2) == 0;
        switch (below(8)) {
            case 0:
                int reach = below(2) == 0 ? about(0, 200) : about(0, 1000);
                int tail = about(0, 200);
                due(when + "setThread(" + reach + ", " + tail + ")",
                        chart.setThread(reach, tail), naive.setThread(reach, tail));
                break;
            case 1:
                int overlap = about(0, 3);
                due(when + "setPages(" + (from + 3) + ", " + (to + 3) + ", " + overlap + ")",
                        chart.setPages(from + 3, to + 3, overlap), naive.setPages(from + 3, to + 3, overlap));
                break;
            case 2:
                due(when + "firstOrder(" + color + ")", chart.firstOrder(color), naive.firstOrder(color));
                break;
            case 3:
                due(when + "shorten(" + color + ")", chart.shorten(color), naive.shorten(color));
                break;
            case 4:
                if (below(4) == 0) {
                    due(when + "outline(" + color + ")", chart.outline(color), naive.outline(color));
                }
                break;
            case 5:
                boolean on = below(4) > 0;
                int x = about(0, width);
                int y = about(0, height);
                due(when + "setBack(" + x + ", " + y + ", " + upright + ", " + on + ")",
                        chart.setBack(x, y, upright, on), naive.setBack(x, y, upright, on));
                break;
            default:
                due(when + "moveRun(" + color + ", " + from + ", " + to + ")",
                        chart.moveRun(color, from, to), naive.moveRun(color, from, to));
                break;
        }
    }

    private void askCells(String when) {
        int x = x();
        int y = y();
        int color = color();
        int what = about(0, 4);
        due(when + "cell(" + x + ", " + y + ")", chart.cell(x, y), naive.cell(x, y));
        due(when + "isLone(" + x + ", " + y + ")", chart.isLone(x, y), naive.isLone(x, y));
        due(when + "pageOf(" + x + ", " + y + ")", chart.pageOf(x, y), naive.pageOf(x, y));
        due(when + "count(" + color + ", " + what + ")", chart.count(color, what), naive.count(color, what));
    }

    private void askOrders(String when) {
        int color = color();
        int run = about(0, 8);
        int what = about(0, 3);
        due(when + "run(" + color + ", " + run + ", " + what + ")",
                chart.run(color, run, what), naive.run(color, run, what));
        due(when + "runAt(" + color + ", " + run + ")", chart.runAt(color, run), naive.runAt(color, run));
    }

    private void askPagesAndBacks(String when) {
        int page = about(0, naive.pages() - 1);
        int color = color();
        int what = about(0, 5);
        int x = about(0, width);
        int y = about(0, height);
        boolean upright = below(2) == 0;
        due(when + "pages()", chart.pages(), naive.pages());
        due(when + "page(" + page + ", " + what + ")", chart.page(page, what), naive.page(page, what));
        due(when + "onPage(" + page + ", " + color + ", " + what + ")",
                chart.onPage(page, color, what), naive.onPage(page, color, what));
        due(when + "back(" + x + ", " + y + ", " + upright + ")",
                chart.back(x, y, upright), naive.back(x, y, upright));
        due(when + "backs(" + what + ")", chart.backs(what), naive.backs(what));
        if (below(60) == 0) {
            due(when + "clearBack()", chart.clearBack(), naive.clearBack());
        }
    }
}
