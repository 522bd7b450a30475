/** Promises 23 to 27: pages. */
public final class PageTest {
    private static final int LEAST = Integer.MIN_VALUE;
    private static final int MOST = Integer.MAX_VALUE;

    public static void main(String[] args) {
        pagesGoOnUntilTheEnd();
        setPagesRefusesWrongValues();
        propertiesOfPages();
        cellsBelongToTheFirstPage();
        threadsOnPages();
        queriesCheckInOrder();
        pagesTogetherAreTheChart();
        Due.end();
    }

    private static void pagesGoOnUntilTheEnd() {
        StitchChart chart = new StitchChart();
        int[][] due = {{10, 8, 0, 1}, {10, 8, 3, 1}, {24, 24, 3, 1}, {9, 8, 1, 2}, {9, 8, 0, 2}, {5, 8, 0, 2},
            {5, 8, 1, 3}, {4, 8, 1, 3}, {4, 8, 2, 4}, {4, 4, 3, 35}, {10, 4, 0, 2}, {10, 5, 2, 2}, {10, 4, 2, 3}};
        for (int[] values : due) {
            Due.be("setPages(" + values[0] + ", " + values[1] + ", " + values[2] + ")",
                    chart.setPages(values[0], values[1], values[2]), values[3]);
            Due.be("pages()", chart.pages(), values[3]);
        }
        chart.setPages(4, 4, 3);
        chart.reset(4, 4);
        Due.be("pages of a chart of a page", chart.pages(), 1);
        chart.reset(1, 5);
        Due.be("pages of a narrow chart", chart.pages(), 2);
        chart.reset(24, 24);
        Due.be("the most pages", chart.pages(), 441);
    }

    private static void setPagesRefusesWrongValues() {
        StitchChart chart = new StitchChart();
        int[][] wrong = {{3, 4, 0}, {4, 3, 0}, {25, 4, 0}, {4, 25, 0}, {4, 4, -1}, {4, 4, 4}, {LEAST, 4, 0},
            {4, MOST, 0}, {4, 4, LEAST}, {4, 4, MOST}};
        for (int[] values : wrong) {
            Due.be("setPages(" + values[0] + ", " + values[1] + ", " + values[2] + ")",
                    chart.setPages(values[0], values[1], values[2]), StitchChart.BAD_VALUE);
        }
        Due.be("pages() as at first", chart.pages(), 4);
        Due.be("page(0, 2) as at first", chart.page(0, 2), 8);
    }

    private static void propertiesOfPages() {
        StitchChart chart = new StitchChart();
        chart.fill(6, 4, 4, 4, 2);
        int[][] due = {{0, 0, 8, 6, 48, 0}, {7, 0, 3, 6, 12, 2}, {0, 5, 8, 3, 16, 2}, {7, 5, 3, 3, 4, 5}};
        for (int page = 0; page < due.length; page++) {
            for (int what = 0; what < 6; what++) {
                Due.be("page(" + page + ", " + what + ")", chart.page(page, what), due[page][what]);
            }
        }
    }

    private static void cellsBelongToTheFirstPage() {
        StitchChart chart = new StitchChart();
        for (int color = 1; color <= 6; color++) {
            chart.setCell(7, 0, color);
            Due.be("repeated stitch of color " + color, chart.page(1, 5), 1);
        }
        Due.be("cells of the page", chart.page(1, 4), 12);
        Due.be("pageOf(7, 5)", chart.pageOf(7, 5), 0);
        Due.be("pageOf(8, 5)", chart.pageOf(8, 5), 1);
        Due.be("pageOf(7, 6)", chart.pageOf(7, 6), 2);
        Due.be("pageOf(8, 6)", chart.pageOf(8, 6), 3);
        chart.setPages(4, 4, 3);
        int[] columns = {0, 0, 0, 0, 1, 2, 3, 4, 5, 6};
        for (int x = 0; x < 10; x++) {
            Due.be("pageOf(" + x + ", 3)", chart.pageOf(x, 3), columns[x]);
            Due.be("pageOf(" + x + ", 4)", chart.pageOf(x, 4), 7 + columns[x]);
        }
        chart.setPages(4, 6, 0);
        Due.be("pageOf(4, 0) without an overlap", chart.pageOf(4, 0), 1);
        Due.be("pageOf(9, 6) without an overlap", chart.pageOf(9, 6), 5);
        int[][] outside = {{-1, 0}, {0, -1}, {10, 0}, {0, 8}, {LEAST, MOST}, {MOST, LEAST}};
        for (int[] at : outside) {
            Due.be("pageOf(" + at[0] + ", " + at[1] + ")", chart.pageOf(at[0], at[1]), StitchChart.UNKNOWN);
        }
    }

    private static void dueOnPage(StitchChart chart, int page, int color, int... due) {
        for (int what = 0; what < due.length; what++) {
            Due.be("onPage(" + page + ", " + color + ", " + what + ")", chart.onPage(page, color, what), due[what]);
        }
    }

    private static void threadsOnPages() {
        StitchChart chart = Due.chart("aa...aaaaa", "..........", "b.......aa");
        // run 0 at 0, 0, run 1 at 5, 0 over both pages, run 2 at 8, 2
        dueOnPage(chart, 0, 1, 5, 2, 48 * 5 + 30 + 50);
        dueOnPage(chart, 1, 1, 4, 1, 48 * 4 + 50 + 30);
        dueOnPage(chart, 0, 2, 1, 1, 48 + 60);
        dueOnPage(chart, 1, 2, 0, 0, 0);
        dueOnPage(chart, 0, 0, 6, 3, 48 * 6 + 80 + 60);
        dueOnPage(chart, 1, 0, 4, 1, 48 * 4 + 80);
        chart.moveRun(1, 2, 0);
        dueOnPage(chart, 0, 1, 5, 2, 48 * 5 + 60 + 50 + 30);
        dueOnPage(chart, 1, 1, 4, 1, 48 * 4 + 30);
        chart.setThread(60, 10);
        dueOnPage(chart, 0, 1, 5, 2, 48 * 5 + 20 + 50 + 10);
    }

    private static void queriesCheckInOrder() {
        StitchChart chart = new StitchChart();
        for (int page : new int[] {-1, 4, LEAST, MOST}) {
            Due.be("page(" + page + ", 99)", chart.page(page, 99), StitchChart.UNKNOWN);
            Due.be("onPage(" + page + ", 99, 99)", chart.onPage(page, 99, 99), StitchChart.UNKNOWN);
        }
        for (int what : new int[] {-1, 6, LEAST, MOST}) {
            Due.be("page(0, " + what + ")", chart.page(0, what), StitchChart.BAD_VALUE);
            Due.be("onPage(0, 0, " + what + ")", chart.onPage(0, 0, what), StitchChart.BAD_VALUE);
        }
        Due.be("onPage(0, 0, 3)", chart.onPage(0, 0, 3), StitchChart.BAD_VALUE);
        for (int color : new int[] {-1, 7, LEAST, MOST}) {
            Due.be("onPage(0, " + color + ", 0)", chart.onPage(0, color, 0), StitchChart.BAD_VALUE);
        }
    }

    private static void pagesTogetherAreTheChart() {
        StitchChart chart = Due.chart("aabbccaabb", "a.b.c.d.e.", "ffffffffff", "abcdefabcd", ".a.a.a.a.a");
        chart.setPages(5, 4, 2);
        int cells = 0;
        int[] sums = new int[3];
        for (int page = 0; page < chart.pages(); page++) {
            cells += chart.page(page, 4);
            for (int what = 0; what < 3; what++) {
                sums[what] += chart.onPage(page, 0, what);
            }
        }
        Due.be("cells of all pages", cells, 50);
        Due.be("stitches of all pages", sums[0], chart.count(0, 0));
        Due.be("runs of all pages", sums[1], chart.count(0, 2));
        Due.be("thread of all pages", sums[2], chart.count(0, 3));
    }
}
